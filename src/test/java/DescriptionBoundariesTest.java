import java.util.LinkedHashMap;
import java.util.Map;
import java.util.function.Supplier;
import java.util.function.ToLongFunction;

/** A test for each boundary that the document's 'Description' names, under the sentence that names it. */
public final class DescriptionBoundariesTest extends TestBase {
    public static void main(String[] args) {
        badComesFirst();
        noneOnlyWithoutAnError();
        refusedCallsChangeNothing();
        questionsChangeNothing();
        eightStreams();
        allStreamsClosedAtFirst();
        weights();
        amountSinceItWasOpened();
        atMostSixWaiting();
        queuesKeepTheirOrder();
        numbersInTheOrderOfComing();
        sizes();
        epochOfComing();
        walksOfEveryLength();
        noWalkFromAStreamToItself();
        epochsFromZero();
        atFirstNoEdges();
        atMostTenEpochs();
        epochAtMostThatOfTheBlocked();
        orderOfTheBlockedFramesEpoch();
        framesBehindTheFirstOneBlock();
        ownQueueDoesNotBlock();
        alwaysACandidate();
        leastFraction();
        lowestStreamOfEqualFractions();
        sendingTakesOutAndAdds();
        logOfFortyFrames();
        logGetsFull();
        everyChangeIsRecorded();
        undoRestoresEachChange();
        recordedAllButTheImages();
        historyOfEightStates();
        historyGoesRound();
        objectsAreApart();
        Check.finish();
    }

    /** Every kind of content: a closed stream with edges, three epochs, an image, a log, a full history. */
    private static StreamMultiplexer busy() {
        StreamMultiplexer x = new StreamMultiplexer();
        for (int s : new int[] {0, 1, 2, 3, 5}) {
            x.open(s, 1 + s);
        }
        x.edge(0, 1, 1);
        x.edge(1, 2, 1);
        x.edge(3, 4, 1);
        x.push(2, 9);
        x.commit();
        x.push(2, 20);
        x.push(0, 30);
        x.push(1, 40);
        x.keep(0);
        x.push(3, 50);
        x.send();
        x.send();
        x.edge(4, 5, 1);
        x.commit();
        for (int size = 11; size <= 16; size++) {
            x.push(5, size);
        }
        return x;
    }

    /** Seven changes and both images kept, so that one more change drops nothing. */
    private static StreamMultiplexer withSevenChanges() {
        StreamMultiplexer x = opened(0, 1);
        x.keep(1);
        x.edge(0, 1, 1);
        x.commit();
        x.push(0, 10);
        x.push(1, 20);
        x.keep(0);
        x.send();
        return x;
    }

    /** A call of each method that is a change, each possible with seven changes made. */
    private static Map<String, ToLongFunction<StreamMultiplexer>> changes() {
        Map<String, ToLongFunction<StreamMultiplexer>> all = new LinkedHashMap<>();
        all.put("open", x -> x.open(2, 5));
        all.put("close", x -> x.close(0));
        all.put("setWeight", x -> x.setWeight(1, 9));
        all.put("push", x -> x.push(1, 99));
        all.put("edge", x -> x.edge(6, 7, 1));
        all.put("edge removed", x -> x.edge(0, 1, 0));
        all.put("commit", StreamMultiplexer::commit);
        all.put("revert", x -> x.revert(0));
        all.put("send", StreamMultiplexer::send);
        all.put("sendSome", x -> x.sendSome(999));
        all.put("sendSome of none", x -> x.sendSome(0));
        all.put("edge that is there", x -> x.edge(0, 1, 1));
        all.put("edge that is not there", x -> x.edge(1, 0, 0));
        all.put("setWeight to the same", x -> x.setWeight(0, 1));
        all.put("revert to the same", x -> x.revert(1));
        all.put("back", x -> x.back(0));
        all.put("back to another image", x -> x.back(1));
        return all;
    }

    private static StreamMultiplexer after(StreamMultiplexer x, ToLongFunction<StreamMultiplexer> call) {
        call.applyAsLong(x);
        return x;
    }

    // ---- conventions

    /** "If several of them apply to one call, the first one in this list is returned." */
    private static void badComesFirst() {
        StreamMultiplexer x = opened(0, 1);
        for (int weight : new int[] {0, 10}) {
            due("BAD before STATE: open", BAD, x.open(0, weight));
            due("BAD before STATE: setWeight", BAD, x.setWeight(7, weight));
        }
        for (int size : new int[] {0, 100}) {
            due("BAD before STATE: push", BAD, x.push(7, size));
        }
        for (int i = 0; i < 6; i++) {
            x.push(0, 1);
        }
        due("FULL", FULL, x.push(0, 1));
        due("BAD before FULL: push", BAD, x.push(0, 0));
        due("BAD before FULL: push", BAD, x.push(0, 100));
        addEdges(x, "01", "12");
        due("CYCLE", CYCLE, x.edge(2, 0, 1));
        due("BAD before CYCLE: edge", BAD, x.edge(2, 0, 2));
        due("BAD before CYCLE: edge", BAD, x.edge(2, 0, -1));
        due("STATE: back", STATE, x.back(1));
        due("BAD before STATE: back", BAD, x.back(2));
        due("BAD before STATE: close", BAD, x.close(8));
    }

    /** "NONE (-9) means that there is no such value; it is returned only if no error code applies." */
    private static void noneOnlyWithoutAnError() {
        StreamMultiplexer x = opened(0);
        due("NONE: no walk", NONE, x.witness(0, 1, -1));
        due("NONE: no walk", NONE, x.witness(0, 1, 0));
        due("BAD, no walk: k", BAD, x.witness(0, 1, -2));
        due("BAD, no walk: a", BAD, x.witness(8, 1, 0));
        due("BAD, no walk: b", BAD, x.witness(0, -1, 0));
        due("BAD, no walk: the same", BAD, x.witness(1, 1, 5));
        for (int s : new int[] {0, 1}) {
            due("NONE: no frame " + s, NONE, x.frame(s, 0, 0));
            due("BAD, no frame: k " + s, BAD, x.frame(s, -1, 0));
            due("BAD, no frame: what " + s, BAD, x.frame(s, 0, -1));
            due("BAD, no frame: what " + s, BAD, x.frame(s, 6, 4));
            due("NONE: none is waiting " + s, NONE, x.stream(s, 7));
            due("BAD, none is waiting: what " + s, BAD, x.stream(s, 8));
        }
        due("BAD, no frame: stream", BAD, x.frame(8, 0, 0));
        due("NONE: no next frame", NONE, x.told(8));
        due("BAD, no next frame: what", BAD, x.told(12));
    }

    private static void checkRefused(String what, long code, Supplier<StreamMultiplexer> made,
            ToLongFunction<StreamMultiplexer> call) {
        due(what, code, call.applyAsLong(made.get()));
        Picture.checkSame("refused " + what, made, () -> after(made.get(), call));
    }

    /** "A call that returns one of them changes nothing." */
    private static void refusedCallsChangeNothing() {
        Supplier<StreamMultiplexer> busy = DescriptionBoundariesTest::busy;
        checkRefused("open 8", BAD, busy, x -> x.open(8, 1));
        checkRefused("open with weight 10", BAD, busy, x -> x.open(7, 10));
        checkRefused("open again", STATE, busy, x -> x.open(0, 9));
        checkRefused("close -1", BAD, busy, x -> x.close(-1));
        checkRefused("close a closed one", STATE, busy, x -> x.close(4));
        checkRefused("close while frames wait", STATE, busy, x -> x.close(5));
        checkRefused("setWeight 0", BAD, busy, x -> x.setWeight(0, 0));
        checkRefused("setWeight of a closed one", STATE, busy, x -> x.setWeight(4, 9));
        checkRefused("push 100", BAD, busy, x -> x.push(0, 100));
        checkRefused("push to a closed one", STATE, busy, x -> x.push(4, 1));
        checkRefused("push a seventh", FULL, busy, x -> x.push(5, 1));
        checkRefused("edge to itself", BAD, busy, x -> x.edge(0, 0, 1));
        checkRefused("edge with on 2", BAD, busy, x -> x.edge(0, 1, 2));
        checkRefused("edge in a cycle", CYCLE, busy, x -> x.edge(5, 3, 1));
        checkRefused("revert to no epoch", BAD, busy, x -> x.revert(3));
        checkRefused("revert to the draft", BAD, busy, x -> x.revert(-1));
        checkRefused("witness", BAD, busy, x -> x.witness(0, 0, 0));
        checkRefused("sendSome of 1000", BAD, busy, x -> x.sendSome(1000));
        checkRefused("sendSome of -1", BAD, busy, x -> x.sendSome(-1));
        checkRefused("told 12", BAD, busy, x -> x.told(12));
        checkRefused("stream 8", BAD, busy, x -> x.stream(8, 7));
        checkRefused("frame -1", BAD, busy, x -> x.frame(5, -1, 3));
        checkRefused("log of no entry", BAD, busy, x -> x.log(2, 0));
        checkRefused("relation", BAD, busy, x -> x.relation(3, 0, 1));
        checkRefused("order", BAD, busy, x -> x.order(-2, 0));
        checkRefused("lists", BAD, busy, x -> x.lists(3));
        checkRefused("keep 2", BAD, busy, x -> x.keep(2));
        checkRefused("back -1", BAD, busy, x -> x.back(-1));
        checkRefused("back to nothing kept", STATE, busy, x -> x.back(1));

        Supplier<StreamMultiplexer> none = StreamMultiplexer::new;
        checkRefused("send of none", STATE, none, StreamMultiplexer::send);
        checkRefused("undo of none", STATE, none, StreamMultiplexer::undo);
        Supplier<StreamMultiplexer> full = () -> {
            StreamMultiplexer x = opened(0);
            commitTo(x, 9);
            x.edge(1, 2, 1);
            return x;
        };
        checkRefused("commit of an eleventh", FULL, full, StreamMultiplexer::commit);
    }

    /** "Some methods are called changes below": the others leave all as it is. */
    private static void questionsChangeNothing() {
        Supplier<StreamMultiplexer> asked = () -> {
            StreamMultiplexer x = busy();
            x.witness(2, 0, 1);
            x.stream(2, 7);
            x.frame(5, 5, 3);
            x.told(8);
            x.log(0, 0);
            x.relation(-1, 0, 1);
            x.order(-1, 2);
            x.order(1, 4);
            x.lists(-1);
            x.lists(0);
            return x;
        };
        Picture.checkSame("asked", DescriptionBoundariesTest::busy, asked);
        Picture.checkSameNow("kept", DescriptionBoundariesTest::busy, () -> after(busy(), x -> x.keep(0)));
        due("keep is no change", 8, after(busy(), x -> x.keep(1)).told(10));
        due("keep is no change", 7, after(withSevenChanges(), x -> x.keep(1)).told(10));
    }

    // ---- streams and frames

    /** "There are 8 streams, 0 to 7". */
    private static void eightStreams() {
        for (int s = 0; s <= 7; s++) {
            int t = (s + 1) % 8;
            StreamMultiplexer x = opened(s);
            due("stream " + s, 1, x.stream(s, 0));
            due("setWeight " + s, 1, x.setWeight(s, 2));
            due("push " + s, 0, x.push(s, 3));
            due("frame " + s, 3, x.frame(s, 0, 1));
            due("edge from " + s, 0, x.edge(s, t, 1));
            due("edge to " + s, CYCLE, x.edge(t, s, 1));
            due("relation " + s, 1, x.relation(-1, s, t));
            due("relation " + s, 3, x.relation(-1, t, s));
            due("witness " + s, s, x.witness(t, s, 0));
            due("witness " + s, t, x.witness(t, s, 1));
            due("send " + s, 0, x.send());
            due("log " + s, s, x.log(0, 1));
            due("close " + s, 3, x.close(s));
        }
        for (int s : new int[] {LEAST, -1, 8, 9, 32, GREATEST}) {
            StreamMultiplexer x = allOpened();
            due("no stream: open " + s, BAD, x.open(s, 1));
            due("no stream: close " + s, BAD, x.close(s));
            due("no stream: setWeight " + s, BAD, x.setWeight(s, 1));
            due("no stream: push " + s, BAD, x.push(s, 1));
            due("no stream: edge " + s, BAD, x.edge(s, 0, 1));
            due("no stream: edge " + s, BAD, x.edge(0, s, 0));
            due("no stream: witness " + s, BAD, x.witness(s, 0, 0));
            due("no stream: witness " + s, BAD, x.witness(0, s, 0));
            due("no stream: stream " + s, BAD, x.stream(s, 0));
            due("no stream: frame " + s, BAD, x.frame(s, 0, 0));
            due("no stream: relation " + s, BAD, x.relation(-1, s, 0));
            due("no stream: relation " + s, BAD, x.relation(-1, 0, s));
        }
    }

    /** "each is open or closed, and all are closed at first." */
    private static void allStreamsClosedAtFirst() {
        StreamMultiplexer x = new StreamMultiplexer();
        for (int s = 0; s <= 7; s++) {
            due("closed at first: stream " + s, 0, x.stream(s, 0));
            due("closed at first: close " + s, STATE, x.close(s));
            due("closed at first: setWeight " + s, STATE, x.setWeight(s, 1));
            due("closed at first: push " + s, STATE, x.push(s, 1));
        }
        due("closed at first: told", 0, x.told(0));
    }

    /** "A stream has a weight from 1 to 9 (1 at first)". */
    private static void weights() {
        for (int weight = -1; weight <= 11; weight++) {
            boolean possible = weight >= 1 && weight <= 9;
            StreamMultiplexer x = opened(1);
            due("open with weight " + weight, possible ? 2 : BAD, x.open(0, weight));
            due("weight " + weight, possible ? weight : 0, x.stream(0, 1));
            due("setWeight " + weight, possible ? 1 : BAD, x.setWeight(1, weight));
            due("weight " + weight, possible ? weight : 1, x.stream(1, 1));
        }
    }

    /** "an amount, which is the sum of the sizes of its frames that were sent since it was opened." */
    private static void amountSinceItWasOpened() {
        StreamMultiplexer x = opened(4);
        due("amount at first", 0, x.stream(4, 2));
        x.push(4, 99);
        due("amount while it waits", 0, x.stream(4, 2));
        x.push(4, 1);
        x.sendSome(999);
        due("amount", 100, x.stream(4, 2));
        due("amount at close", 100, x.close(4));
        due("amount while closed", 0, x.stream(4, 2));
        x.open(4, 1);
        due("amount from 0", 0, x.stream(4, 2));
        x.push(4, 7);
        x.send();
        due("amount since it was opened", 7, x.stream(4, 2));
        due("amount at close", 7, x.close(4));
    }

    /** "Each open stream has a queue of at most 6 waiting frames". */
    private static void atMostSixWaiting() {
        StreamMultiplexer x = allOpened();
        int number = 0;
        for (int s = 0; s <= 7; s++) {
            for (int k = 1; k <= 6; k++) {
                due("push " + k + " to " + s, number++, x.push(s, k));
                due("waiting", k, x.stream(s, 3));
                due("their sizes", k * (k + 1) / 2, x.stream(s, 4));
            }
            due("a seventh to " + s, FULL, x.push(s, 1));
            due("six still", 6, x.stream(s, 3));
        }
        due("waiting in all", 48, x.told(1));
        due("their sizes", 8 * 21, x.told(4));
        due("candidates in all", 8, x.told(7));
        due("send", 0, x.send());
        due("one fits again", 48, x.push(0, 9));
        due("no second one", FULL, x.push(0, 9));
        due("its number", 48, x.frame(0, 5, 0));
        due("undo", 7, x.undo());
        due("undo", 6, x.undo());
        due("full before it was sent", FULL, x.push(0, 9));
    }

    /** "which are sent in the order in which they came." */
    private static void queuesKeepTheirOrder() {
        StreamMultiplexer x = opened(3);
        for (int size : new int[] {50, 9, 99, 1, 20, 9}) {
            x.push(3, size);
        }
        for (int k = 0; k < 6; k++) {
            due("before frame " + k, k, x.frame(3, k, 3));
        }
        due("first", 0, x.send());
        due("at the end", 6, x.push(3, 1));
        for (int k = 0; k < 6; k++) {
            due("moved up " + k, k + 1, x.frame(3, k, 0));
        }
        for (int number = 1; number <= 6; number++) {
            due("in order", number, x.send());
        }
    }

    /** "frames are numbered from 0 in the order in which they come". */
    private static void numbersInTheOrderOfComing() {
        StreamMultiplexer x = opened(6, 2);
        due("number", 0, x.push(6, 1));
        due("number", 1, x.push(2, 1));
        due("refused", BAD, x.push(2, 0));
        due("refused", STATE, x.push(3, 1));
        due("no number is left out", 2, x.push(6, 1));
        x.sendSome(999);
        due("numbers go on when all are sent", 3, x.push(2, 1));
        x.send();
        x.close(2);
        x.open(2, 1);
        due("numbers go on when it was closed", 4, x.push(2, 1));
        x.commit();
        due("numbers go on in a new epoch", 5, x.push(2, 1));
        due("number", 5, x.frame(2, 1, 0));
        x.undo();
        due("undone numbers come again", 5, x.push(6, 1));
        due("have come", 6, x.told(2));
    }

    /** "a size from 1 to 99". */
    private static void sizes() {
        for (int size : new int[] {LEAST, -1, 0, 1, 2, 98, 99, 100, 101, GREATEST}) {
            boolean possible = size >= 1 && size <= 99;
            StreamMultiplexer x = opened(0);
            due("push " + size, possible ? 0 : BAD, x.push(0, size));
            due("size " + size, possible ? size : NONE, x.frame(0, 0, 1));
            due("sum " + size, possible ? size : 0, x.told(4));
        }
    }

    /** "and the epoch in which it came." */
    private static void epochOfComing() {
        StreamMultiplexer x = opened(0, 1);
        for (int e = 0; e <= 9; e++) {
            commitTo(x, e);
            x.push(e % 2, 1);
        }
        for (int e = 0; e <= 9; e++) {
            due("epoch " + e, e, x.frame(e % 2, e / 2, 2));
        }
        x.sendSome(999);
        for (int k = 0; k <= 9; k++) {
            due("epoch in the log " + k, x.log(k, 0), x.log(k, 3));
        }
    }

    // ---- orders

    /** "A stream a precedes a stream b in an order if a walk along its edges leads from a to b." */
    private static void walksOfEveryLength() {
        // Upwards and downwards, so that no order of looking at streams helps.
        int[][] chains = {{0, 1, 2, 3, 4, 5, 6, 7}, {7, 6, 5, 4, 3, 2, 1, 0}, {3, 7, 0, 5, 1, 6, 2, 4}};
        for (int[] chain : chains) {
            StreamMultiplexer x = new StreamMultiplexer();
            for (int i = 6; i >= 0; i--) {
                x.edge(chain[i], chain[i + 1], 1);
            }
            for (int i = 0; i < 8; i++) {
                for (int j = i + 1; j < 8; j++) {
                    due("precedes", j == i + 1 ? 1 : 2, x.relation(-1, chain[i], chain[j]));
                    due("is preceded", j == i + 1 ? 3 : 4, x.relation(-1, chain[j], chain[i]));
                    due("closes a cycle", CYCLE, x.edge(chain[j], chain[i], 1));
                    due("walk", j - i, x.witness(chain[j], chain[i], -1));
                }
            }
        }
    }

    /** "An order is a set of edges, each from a stream to another one, without a cycle". */
    private static void noWalkFromAStreamToItself() {
        StreamMultiplexer x = new StreamMultiplexer();
        for (int s = 0; s <= 7; s++) {
            due("to itself " + s, BAD, x.edge(s, s, 1));
            due("from itself " + s, BAD, x.edge(s, s, 0));
        }
        addEdges(x, "01");
        due("cycle of two", CYCLE, x.edge(1, 0, 1));
        addEdges(x, "12", "23", "34", "45", "56", "67");
        due("cycle of eight", CYCLE, x.edge(7, 0, 1));
        due("the walk is cut", 1, x.edge(3, 4, 0));
        due("no cycle any more", 0, x.edge(7, 0, 1));
        due("now another one", CYCLE, x.edge(3, 4, 1));
        due("edges", 7, x.told(6));
    }

    /** "epochs are numbered from 0, and the latest one is the current one." */
    private static void epochsFromZero() {
        StreamMultiplexer x = opened(0);
        due("epoch 0", 0, x.told(5));
        due("no epoch 1", BAD, x.relation(1, 0, 1));
        due("commit", 1, x.commit());
        due("current", 1, x.told(5));
        due("epoch 1", 0, x.relation(1, 0, 1));
        due("no epoch 2", BAD, x.relation(2, 0, 1));
        due("frame", 0, x.push(0, 1));
        due("of the current epoch", 1, x.frame(0, 0, 2));
    }

    /** "At first there is the epoch 0, and its order and the draft have no edges." */
    private static void atFirstNoEdges() {
        StreamMultiplexer x = new StreamMultiplexer();
        for (int epoch = -1; epoch <= 0; epoch++) {
            for (int a = 0; a < 8; a++) {
                for (int b = 0; b < 8; b++) {
                    due("no edge", a == b ? BAD : 0, x.relation(epoch, a, b));
                }
            }
        }
        due("edges", 0, x.told(6));
        due("the same", 1, x.told(11));
        due("revert", 0, x.revert(0));
    }

    /** "There are at most 10 epochs." */
    private static void atMostTenEpochs() {
        StreamMultiplexer x = new StreamMultiplexer();
        for (int e = 1; e <= 9; e++) {
            x.edge(0, e % 8, 1);
            due("epoch " + e, e, x.commit());
            due("it is there " + e, 3, x.relation(e, 1, 0));
            due("the next is not " + e, BAD, x.relation(e + 1, 1, 0));
        }
        due("an eleventh", FULL, x.commit());
        due("and again", FULL, x.commit());
        due("no epoch 10", BAD, x.relation(10, 0, 1));
        due("no epoch 10", BAD, x.order(10, 0));
        due("no epoch 10", BAD, x.lists(10));
        due("no epoch 10", BAD, x.revert(10));
        due("epoch 9", 7, x.revert(9));
        due("epoch 1", 1, x.revert(1));
        due("revert makes no room", FULL, x.commit());
    }

    // ---- sending

    /** "if the epoch of g is at most e": an earlier and the same one block, a later one does not. */
    private static void epochAtMostThatOfTheBlocked() {
        for (int earlier = 0; earlier <= 2; earlier++) {
            for (int later = 0; later <= 2; later++) {
                StreamMultiplexer x = opened(0, 7);
                addEdges(x, "70");
                commitTo(x, 1);
                boolean blockingComesFirst = earlier <= later;
                for (int e = 0; e <= 2; e++) {
                    commitTo(x, 1 + e);
                    if (e == earlier) {
                        x.push(7, 50);
                    }
                    if (e == later) {
                        x.push(0, 1);
                    }
                }
                due("blocks", blockingComesFirst ? 1 : 0, x.stream(0, 6));
                due("candidate", blockingComesFirst ? 0 : 1, x.stream(0, 5));
                due("candidates", blockingComesFirst ? 1 : 2, x.told(7));
                due("next", blockingComesFirst ? 7 : 0, x.told(8));
                due("sent before it", blockingComesFirst ? 1 : 0, x.stream(0, 7));
            }
        }
    }

    /** "and a precedes b in the order of the epoch e": not of the other frame's, the current one or the draft. */
    private static void orderOfTheBlockedFramesEpoch() {
        // In the epoch 1 the stream 7 precedes 0, in 0 and 2 it does not.
        for (int blocked = 0; blocked <= 2; blocked++) {
            StreamMultiplexer x = opened(0, 7);
            x.push(7, 1);
            if (blocked == 0) {
                x.push(0, 1);
            }
            addEdges(x, "73", "30");
            x.commit();
            if (blocked == 1) {
                x.push(0, 1);
            }
            x.edge(3, 0, 0);
            x.commit();
            if (blocked == 2) {
                x.push(0, 1);
            }
            addEdges(x, "70");
            due("epoch " + blocked, blocked, x.frame(0, 0, 2));
            due("blocked in " + blocked, blocked == 1 ? 1 : 0, x.stream(0, 6));
            due("next in " + blocked, blocked == 1 ? 7 : 0, x.told(8));
        }
    }

    /** "A waiting frame f of a stream b ... is blocked by a waiting frame g": any one, not the first alone. */
    private static void framesBehindTheFirstOneBlock() {
        StreamMultiplexer x = opened(1, 6);
        addEdges(x, "61");
        for (int e = 0; e <= 2; e++) {
            commitTo(x, e);
            x.push(6, 10);
            x.push(6, 10);
            if (e == 1) {
                x.push(1, 1);
            }
        }
        due("blocked by those of the epochs 0 and 1", 4, x.stream(1, 6));
        due("sent before it", 4, x.stream(1, 7));
        for (int left = 3; left >= 0; left--) {
            due("next", 6, x.told(8));
            x.send();
            due("blocked by", left, x.stream(1, 6));
            due("candidate", left == 0 ? 1 : 0, x.stream(1, 5));
        }
        due("free now", 1, x.told(8));
    }

    /** "by a waiting frame g of another stream a". */
    private static void ownQueueDoesNotBlock() {
        StreamMultiplexer x = opened(2, 4);
        addEdges(x, "24");
        x.commit();
        for (int i = 0; i < 6; i++) {
            x.push(2, 1);
        }
        due("none blocks", 0, x.stream(2, 6));
        due("candidate", 1, x.stream(2, 5));
        x.push(4, 1);
        due("what follows does not block", 0, x.stream(2, 6));
        due("what precedes does", 6, x.stream(4, 6));
    }

    /** "(If frames are waiting, there is at least one candidate.)" */
    private static void alwaysACandidate() {
        // Of two epochs with contrary orders, the frames of the first are sent first.
        StreamMultiplexer x = allOpened();
        for (int s = 0; s < 7; s++) {
            x.edge(s, s + 1, 1);
        }
        x.commit();
        for (int s = 7; s >= 0; s--) {
            x.push(s, 9);
        }
        x.revert(0);
        for (int s = 0; s < 7; s++) {
            x.edge(s + 1, s, 1);
        }
        x.commit();
        for (int s = 0; s <= 7; s++) {
            x.push(s, 9);
        }
        for (int sent = 0; sent < 16; sent++) {
            due("candidates", 1, x.told(7));
            due("next", sent < 8 ? sent : 15 - sent, x.told(8));
            due("send", sent < 8 ? 7 - sent : 23 - sent, x.send());
        }
        due("no candidate", 0, x.told(7));
    }

    /** "the candidate whose stream has the least amount divided by its weight, as a fraction". */
    private static void leastFraction() {
        // Amounts and weights of the streams 0 and 1, and which of them is next.
        int[][] rows = {
            {7, 2, 10, 3, 1}, {10, 3, 7, 2, 0}, {1, 8, 1, 9, 1}, {1, 9, 1, 8, 0}, {99, 9, 89, 8, 0},
            {89, 8, 99, 9, 1}, {98, 9, 11, 1, 0}, {99, 9, 10, 1, 1}, {2, 1, 1, 1, 1}, {1, 2, 1, 1, 0},
        };
        for (int[] row : rows) {
            due("least fraction", row[4], nextOfTwo(row[0], row[1], row[2], row[3]).told(8));
        }
        StreamMultiplexer x = nextOfTwo(7, 2, 10, 3);
        x.setWeight(0, 9);
        due("a new weight counts at once", 0, x.told(8));
    }

    /** The streams 0 and 1 have sent the amounts, and a frame of each is waiting. */
    private static StreamMultiplexer nextOfTwo(int amount0, int weight0, int amount1, int weight1) {
        StreamMultiplexer x = new StreamMultiplexer();
        x.open(0, weight0);
        x.open(1, weight1);
        x.push(0, amount0);
        x.push(1, amount1);
        x.sendSome(999);
        x.push(1, 1);
        x.push(0, 1);
        return x;
    }

    /** "of several, that of the lowest stream." */
    private static void lowestStreamOfEqualFractions() {
        due("equal", 0, nextOfTwo(6, 2, 9, 3).told(8));
        due("equal", 0, nextOfTwo(99, 9, 11, 1).told(8));
        due("equal", 0, nextOfTwo(8, 8, 8, 8).told(8));
        StreamMultiplexer x = allOpened();
        for (int s = 7; s >= 0; s--) {
            x.setWeight(s, 1 + s);
            x.push(s, 1);
        }
        for (int s = 0; s <= 7; s++) {
            due("all have 0", s, x.told(8));
            due("send", 7 - s, x.send());
        }
    }

    /** "When a frame is sent, it is taken out of its queue, and the amount of its stream increases by its size." */
    private static void sendingTakesOutAndAdds() {
        StreamMultiplexer x = opened(0, 1);
        x.push(0, 99);
        x.push(0, 1);
        x.push(1, 50);
        x.send();
        due("taken out", 1, x.stream(0, 3));
        due("the next one is first", 1, x.frame(0, 0, 0));
        due("amount", 99, x.stream(0, 2));
        due("other queue", 1, x.stream(1, 3));
        due("other amount", 0, x.stream(1, 2));
        due("waiting sizes", 51, x.told(4));
        due("sent", 1, x.told(3));
    }

    /** "The log contains the latest 40 frames that were sent, the oldest one first." */
    private static void logOfFortyFrames() {
        int[] streams = {5, 0, 6};
        StreamMultiplexer x = opened(streams);
        int[] sent = new int[84];
        for (int round = 0; round < 14; round++) {
            commitTo(x, Math.min(9, round));
            for (int i = 0; i < 6; i++) {
                x.push(streams[i % 3], 1 + round * 6 + i);
            }
            for (int i = 0; i < 6; i++) {
                sent[round * 6 + i] = x.send();
            }
            int all = 6 + round * 6;
            due("entries", Math.min(40, all), x.told(9));
            due("all sent", all, x.told(3));
            due("oldest", sent[Math.max(0, all - 40)], x.log(0, 0));
            due("latest", sent[all - 1], x.log(Math.min(40, all) - 1, 0));
        }
        for (int k = 0; k < 40; k++) {
            int number = sent[44 + k];
            due("number of entry " + k, number, x.log(k, 0));
            due("stream of entry " + k, streams[number % 3], x.log(k, 1));
            due("size of entry " + k, 1 + number, x.log(k, 2));
            due("epoch of entry " + k, Math.min(9, number / 6), x.log(k, 3));
        }
        due("no entry", BAD, x.log(40, 0));
    }

    /** The same, before and as the log gets full. */
    private static void logGetsFull() {
        StreamMultiplexer x = opened(2);
        for (int sent = 0; sent <= 42; sent++) {
            int entries = Math.min(40, sent);
            due("entries", entries, x.told(9));
            due("oldest entry", sent == 0 ? BAD : Math.max(0, sent - 40), x.log(0, 0));
            due("latest entry", sent == 0 ? BAD : sent - 1, x.log(entries - 1, 0));
            due("no entry", BAD, x.log(entries, 0));
            x.push(2, 1);
            x.send();
        }
        for (int sent = 42; sent >= 39; sent--) {
            x.undo();
            due("undone entries", Math.min(40, sent), x.told(9));
            due("undone oldest entry", Math.max(0, sent - 40), x.log(0, 0));
            x.undo();
        }
    }

    // ---- changes

    /** "a change that returns no error code records everything before it". */
    private static void everyChangeIsRecorded() {
        for (Map.Entry<String, ToLongFunction<StreamMultiplexer>> change : changes().entrySet()) {
            String name = change.getKey();
            StreamMultiplexer x = withSevenChanges();
            due("seven changes", 7, x.told(10));
            due(name + " is possible", 1, change.getValue().applyAsLong(x) >= 0 ? 1 : 0);
            due(name + " is recorded once", 8, x.told(10));
            due("undo of " + name, 7, x.undo());
            due("seven changes", 7, x.told(10));
        }
    }

    /** "undo() removes the latest state and restores it." */
    private static void undoRestoresEachChange() {
        for (Map.Entry<String, ToLongFunction<StreamMultiplexer>> change : changes().entrySet()) {
            Supplier<StreamMultiplexer> undone = () -> {
                StreamMultiplexer x = after(withSevenChanges(), change.getValue());
                x.undo();
                return x;
            };
            Picture.checkSame("undo of " + change.getKey(), DescriptionBoundariesTest::withSevenChanges, undone);
        }
    }

    /** "records everything before it, except the images": what is kept after a change stays when it is undone. */
    private static void recordedAllButTheImages() {
        StreamMultiplexer x = opened(0);
        x.push(0, 10);
        due("keep", 1, x.keep(0));
        x.push(0, 20);
        due("keep", 2, x.keep(0));
        due("keep", 2, x.keep(1));
        due("undo", 2, x.undo());
        due("undo", 1, x.undo());
        due("undo", 0, x.undo());
        due("none open", 0, x.told(0));
        due("as kept last", 2, x.back(0));
        due("as kept last", 20, x.frame(0, 1, 1));
        due("undo of back", 0, x.undo());
        due("none open", 0, x.told(0));
        due("still kept", 2, x.back(1));
        due("still kept", 2, x.back(0));
    }

    /** "A history of at most 8 states is kept: ... if there are more than 8, the oldest one is dropped". */
    private static void historyOfEightStates() {
        for (int changes = 7; changes <= 10; changes++) {
            StreamMultiplexer x = new StreamMultiplexer();
            for (int i = 0; i < changes; i++) {
                x.edge(0, 1, i % 2);
                due("changes", Math.min(8, i + 1), x.told(10));
            }
            int kept = Math.min(8, changes);
            for (int left = kept - 1; left >= 0; left--) {
                due("undo", left, x.undo());
                int made = changes - kept + left;
                due("draft as after " + made, made > 0 && (made - 1) % 2 == 1 ? 1 : 0, x.told(6));
            }
            due("no more", STATE, x.undo());
            due("and again", STATE, x.undo());
        }
    }

    /** The same, as changes and undos take turns for long. */
    private static void historyGoesRound() {
        StreamMultiplexer x = opened(0);
        int[] weights = new int[200];
        int made = 0;
        int kept = 1;
        weights[0] = 1;
        for (int i = 0; i < 120; i++) {
            if (i % 11 < 8) {
                weights[++made] = 1 + i * 5 % 9;
                due("previous", weights[made - 1], x.setWeight(0, weights[made]));
                kept = Math.min(8, kept + 1);
            } else {
                made--;
                due("undo", --kept, x.undo());
            }
            due("weight", weights[made], x.stream(0, 1));
            due("changes", kept, x.told(10));
        }
        while (kept > 0) {
            due("undo", --kept, x.undo());
            due("weight", weights[--made], x.stream(0, 1));
        }
        due("no more", STATE, x.undo());
    }

    /** A new object is as promise 1 says, whatever others have been through. */
    private static void objectsAreApart() {
        Picture.checkSame("new beside others", StreamMultiplexer::new, () -> {
            StreamMultiplexer x = new StreamMultiplexer();
            busy();
            return x;
        });
        Picture.checkSame("busy beside others", DescriptionBoundariesTest::busy, () -> {
            StreamMultiplexer x = busy();
            StreamMultiplexer y = withSevenChanges();
            y.undo();
            y.keep(0);
            y.back(1);
            return x;
        });
    }
}
