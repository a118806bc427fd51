import java.util.function.Supplier;

/** A test for each boundary that a promise of the document names, under the sentence that names it. */
public final class PromiseBoundariesTest extends TestBase {
    private static final int[] NO_IMAGES = {LEAST, -2, -1, 2, 3, GREATEST};

    public static void main(String[] args) {
        newObjectKeepsNothing();
        openCounts();
        openFromZero();
        closeNeedsAnEmptyQueue();
        closeLeavesOrders();
        setWeightTellsThePrevious();
        pushNeedsAnOpenStream();
        edgeTellsWhetherItWasThere();
        onIsOneOrZero();
        cyclesOnlyWhenAdded();
        commitKeepsTheDraft();
        revertToEachEpoch();
        revertBounds();
        witnessIndexes();
        witnessHasFewestEdges();
        witnessIsSmallest();
        sendNeedsAFrame();
        budgets();
        sumOfTheBudget();
        undoNeedsAChange();
        toldOfWaitingFrames();
        toldWhetherTheDraftIsTheSame();
        toldBounds();
        streamOfClosedOnes();
        streamWithoutFrames();
        streamForecast();
        frameIndexes();
        frameForecast();
        logBounds();
        relationPrefersTheEdge();
        relationBounds();
        orderOfNoneAndOneOpen();
        orderOfTheFullest();
        orderAmongOpenOnes();
        orderNeedlessEdges();
        orderBounds();
        listsOfNoneAndAll();
        listsOfShapes();
        keepReplaces();
        imageBounds();
        backNeedsAnImage();
        backMakesAllAsItWas();
        backWithAFullHistory();
        Check.finish();
    }

    private static void dueTold(String call, StreamMultiplexer x, int... due) {
        for (int what = 0; what < due.length; what++) {
            due(call + ", told " + what, due[what], x.told(what));
        }
    }

    private static void dueOrder(String call, StreamMultiplexer x, int epoch, int... due) {
        for (int what = 0; what < due.length; what++) {
            due(call + ", order " + epoch + " " + what, due[what], x.order(epoch, what));
        }
    }

    /** All 28 edges from a lower stream to a higher one. */
    private static void addAllEdgesUpwards(StreamMultiplexer x) {
        for (int a = 0; a < 8; a++) {
            for (int b = a + 1; b < 8; b++) {
                due("edge", 0, x.edge(a, b, 1));
            }
        }
    }

    /** 1: "an empty log; the images keep nothing, and nothing can be undone." */
    private static void newObjectKeepsNothing() {
        StreamMultiplexer x = new StreamMultiplexer();
        due("1 log", BAD, x.log(0, 0));
        due("1 entries", 0, x.told(9));
        for (int i = 0; i <= 1; i++) {
            due("1 image " + i, STATE, x.back(i));
        }
        due("1 undo", STATE, x.undo());
        due("1 changes", 0, x.told(10));
        due("1 epoch", 0, x.told(5));
    }

    /** 2: "Returns the number of open streams then". */
    private static void openCounts() {
        StreamMultiplexer x = new StreamMultiplexer();
        int count = 0;
        for (int s : new int[] {7, 0, 3, 6, 1, 5, 2, 4}) {
            due("2 open " + s, ++count, x.open(s, 9));
            due("2 again " + s, STATE, x.open(s, 1));
            due("2 open streams", count, x.told(0));
        }
        x.close(3);
        due("2 one closed", 7, x.told(0));
        due("2 open again", 8, x.open(3, 1));
    }

    /** 2: "Opens a stream; its amount is 0." */
    private static void openFromZero() {
        StreamMultiplexer x = opened(0, 1);
        x.push(0, 60);
        x.push(1, 50);
        x.sendSome(999);
        x.close(0);
        x.open(0, 1);
        x.push(1, 1);
        x.push(0, 1);
        due("2 its amount counts from 0", 0, x.told(8));
        due("2 undo", 7, x.undo());
        x.undo();
        x.undo();
        due("2 closed with its amount gone", 0, x.stream(0, 2));
        x.undo();
        due("2 open with its amount", 60, x.stream(0, 2));
    }

    /** 3: "STATE if it is closed, or frames of it are waiting." */
    private static void closeNeedsAnEmptyQueue() {
        for (int s = 0; s <= 7; s++) {
            StreamMultiplexer x = new StreamMultiplexer();
            due("3 closed " + s, STATE, x.close(s));
            x.open(s, 1);
            x.open((s + 1) % 8, 1);
            x.push((s + 1) % 8, 1);
            due("3 frames of another one " + s, 0, x.close(s));
            due("3 closed again " + s, STATE, x.close(s));
            x.open(s, 1);
            x.push(s, 2);
            due("3 one frame " + s, STATE, x.close(s));
            x.sendSome(3);
            due("3 all sent " + s, 2, x.close(s));
        }
    }

    /** 3: "Edges of the draft and of the orders of epochs stay." */
    private static void closeLeavesOrders() {
        StreamMultiplexer x = opened(2, 4, 6);
        addEdges(x, "24", "46");
        x.commit();
        addEdges(x, "41");
        due("3 close", 0, x.close(4));
        due("3 edges", 3, x.told(6));
        due("3 draft", 1, x.relation(-1, 4, 1));
        due("3 epoch", 2, x.relation(1, 2, 6));
        x.push(6, 1);
        x.push(2, 1);
        due("3 blocked through the closed one", 1, x.stream(6, 6));
        due("3 reverted", 2, x.revert(1));
        x.open(4, 1);
        due("3 draft", 1, x.relation(-1, 2, 4));
    }

    /** 4: "Returns the previous weight". */
    private static void setWeightTellsThePrevious() {
        StreamMultiplexer x = opened(7);
        for (int weight = 1; weight <= 9; weight++) {
            due("4 previous", Math.max(1, weight - 1), x.setWeight(7, weight));
            due("4 same", weight, x.setWeight(7, weight));
        }
        x.close(7);
        due("4 closed", STATE, x.setWeight(7, 1));
        x.open(7, 2);
        due("4 that of the opening", 2, x.setWeight(7, 3));
    }

    /** 5: "STATE if it is closed; FULL if 6 frames of it are waiting." */
    private static void pushNeedsAnOpenStream() {
        StreamMultiplexer x = opened(0);
        for (int s = 1; s <= 7; s++) {
            due("5 closed " + s, STATE, x.push(s, 1));
        }
        for (int i = 0; i < 5; i++) {
            due("5 push", i, x.push(0, 1));
        }
        due("5 the sixth", 5, x.push(0, 1));
        due("5 a seventh", FULL, x.push(0, 1));
        due("5 sent", 1, x.sendSome(1));
        due("5 room for one", 6, x.push(0, 1));
        due("5 not for two", FULL, x.push(0, 1));
        x.sendSome(999);
        x.close(0);
        due("5 closed", STATE, x.push(0, 1));
    }

    /** 6: "Returns 1 if it was there, otherwise 0". */
    private static void edgeTellsWhetherItWasThere() {
        StreamMultiplexer x = new StreamMultiplexer();
        addAllEdgesUpwards(x);
        for (int a = 0; a < 8; a++) {
            for (int b = a + 1; b < 8; b++) {
                due("6 added again", 1, x.edge(a, b, 1));
                due("6 turned", 0, x.edge(b, a, 0));
            }
        }
        due("6 edges", 28, x.told(6));
        for (int a = 0; a < 8; a++) {
            for (int b = a + 1; b < 8; b++) {
                due("6 removed", 1, x.edge(a, b, 0));
                due("6 removed again", 0, x.edge(a, b, 0));
            }
        }
        due("6 none left", 0, x.told(6));
        addEdges(x, "12", "23");
        due("6 a walk is no edge", 0, x.edge(1, 3, 0));
        due("6 a walk is no edge", 0, x.edge(1, 3, 1));
    }

    /** 6: "BAD if there is no such stream, both are the same, or on is out of range". */
    private static void onIsOneOrZero() {
        StreamMultiplexer x = new StreamMultiplexer();
        for (int on : new int[] {LEAST, -2, -1, 2, 3, GREATEST}) {
            due("6 on " + on, BAD, x.edge(0, 1, on));
        }
        due("6 nothing came of it", 0, x.told(6));
        due("6 nothing is recorded", 0, x.told(10));
        for (int s : new int[] {LEAST, -1, 8, GREATEST}) {
            due("6 both no stream", BAD, x.edge(s, s, 1));
        }
    }

    /** 6: "CYCLE if it is added and b precedes a in the draft." */
    private static void cyclesOnlyWhenAdded() {
        StreamMultiplexer x = new StreamMultiplexer();
        addEdges(x, "53", "31");
        x.commit();
        due("6 back along an edge", CYCLE, x.edge(3, 5, 1));
        due("6 back along a walk", CYCLE, x.edge(1, 5, 1));
        due("6 removing is none", 0, x.edge(1, 5, 0));
        due("6 forth is none", 0, x.edge(5, 1, 1));
        x.edge(5, 1, 0);
        x.edge(3, 1, 0);
        due("6 an epoch's order does not count", 0, x.edge(1, 5, 1));
        due("6 nor does it change", 2, x.relation(1, 5, 1));
        due("6 now the draft's", CYCLE, x.edge(3, 1, 1));
        x.revert(1);
        due("6 reverted, free again", 1, x.edge(3, 1, 1));
        due("6 reverted, a cycle again", CYCLE, x.edge(1, 5, 1));
    }

    /** 7: "Begins a new epoch, whose order is the draft, which stays." */
    private static void commitKeepsTheDraft() {
        StreamMultiplexer x = opened(0, 1);
        addEdges(x, "01");
        due("7 commit", 1, x.commit());
        due("7 edges", 1, x.told(6));
        due("7 the same", 1, x.told(11));
        due("7 commit the same", 2, x.commit());
        x.edge(0, 1, 0);
        addEdges(x, "10");
        due("7 commit", 3, x.commit());
        due("7 epoch 0", 0, x.relation(0, 0, 1));
        due("7 epoch 1", 1, x.relation(1, 0, 1));
        due("7 epoch 2", 1, x.relation(2, 0, 1));
        due("7 epoch 3", 3, x.relation(3, 0, 1));
        x.undo();
        addEdges(x, "02");
        due("7 commit again", 3, x.commit());
        due("7 with the new draft", 1, x.relation(3, 0, 2));
    }

    /** 8: "Makes the draft the order of an epoch." */
    private static void revertToEachEpoch() {
        StreamMultiplexer x = new StreamMultiplexer();
        for (int e = 1; e <= 9; e++) {
            x.edge((e - 1) % 8, e % 8, e <= 7 ? 1 : 0);
            x.edge(0, 1, e <= 7 ? 1 : 0);
            x.commit();
        }
        // After 7 the edge from 0 to 1 is gone, and that from 7 to 0 was never there.
        int[] edges = {0, 1, 2, 3, 4, 5, 6, 7, 6, 6};
        for (int e = 9; e >= 0; e--) {
            due("8 edges of " + e, edges[e], x.revert(e));
            due("8 draft of " + e, edges[e], x.told(6));
            due("8 walk of " + e, e == 0 || e >= 8 ? 0 : e == 1 ? 1 : 2, x.relation(-1, 0, Math.max(1, Math.min(7, e))));
        }
        addEdges(x, "70");
        due("8 epoch 0 stays", 0, x.relation(0, 7, 0));
        due("8 back to none", 0, x.revert(0));
        addAllEdgesUpwards(x);
        due("8 the current one still", 6, x.revert(9));
    }

    /** 8: "BAD if there is no such epoch." */
    private static void revertBounds() {
        StreamMultiplexer x = new StreamMultiplexer();
        due("8 epoch 0", 0, x.revert(0));
        due("8 no epoch 1", BAD, x.revert(1));
        due("8 not the draft", BAD, x.revert(-1));
        commitTo(x, 9);
        due("8 epoch 9", 0, x.revert(9));
        for (int epoch : new int[] {LEAST, -2, -1, 10, 11, GREATEST}) {
            due("8 no epoch " + epoch, BAD, x.revert(epoch));
        }
        x.undo();
        x.undo();
        due("8 epoch 9 is undone", BAD, x.revert(9));
        due("8 epoch 8", 0, x.revert(8));
    }

    /** 9: "0 for b; or -1 for the number of its edges"; "or it has not so many streams". */
    private static void witnessIndexes() {
        for (int edges = 1; edges <= 7; edges++) {
            StreamMultiplexer x = new StreamMultiplexer();
            for (int s = 0; s < edges; s++) {
                x.edge(7 - s, 6 - s, 1);
            }
            int a = 7 - edges;
            due("9 edges", edges, x.witness(a, 7, -1));
            due("9 first", 7, x.witness(a, 7, 0));
            due("9 last", a, x.witness(a, 7, edges));
            due("9 behind the last", NONE, x.witness(a, 7, edges + 1));
            due("9 far behind", NONE, x.witness(a, 7, 8));
            due("9 far behind", NONE, x.witness(a, 7, GREATEST));
            due("9 too small", BAD, x.witness(a, 7, -2));
            due("9 too small", BAD, x.witness(a, 7, LEAST));
            due("9 no walk", NONE, x.witness(7, a, -1));
            due("9 no walk", NONE, x.witness(7, a, 0));
            due("9 no walk", NONE, x.witness(7, a, GREATEST));
        }
    }

    private static void dueWalk(StreamMultiplexer x, int a, int b, int... walk) {
        due("9 edges", walk.length - 1, x.witness(a, b, -1));
        for (int k = 0; k < walk.length; k++) {
            due("9 stream " + k, walk[k], x.witness(a, b, k));
        }
        due("9 no more", NONE, x.witness(a, b, walk.length));
    }

    /** 9: "the walk along its edges from b to a that has the fewest edges". */
    private static void witnessHasFewestEdges() {
        StreamMultiplexer x = new StreamMultiplexer();
        addEdges(x, "70", "01", "12", "23", "36");
        dueWalk(x, 6, 7, 7, 0, 1, 2, 3, 6);
        addEdges(x, "74", "45", "53");
        dueWalk(x, 6, 7, 7, 4, 5, 3, 6);
        addEdges(x, "56");
        dueWalk(x, 6, 7, 7, 4, 5, 6);
        addEdges(x, "46");
        dueWalk(x, 6, 7, 7, 4, 6);
        addEdges(x, "76");
        dueWalk(x, 6, 7, 7, 6);
        x.edge(7, 6, 0);
        dueWalk(x, 6, 7, 7, 4, 6);
        x.revert(0);
        due("9 no walk", NONE, x.witness(6, 7, -1));
    }

    /** 9: "of several, the one whose list of streams is lexicographically smallest." */
    private static void witnessIsSmallest() {
        StreamMultiplexer x = new StreamMultiplexer();
        // From 7 to 6 by 5 3, 5 2, 4 3 and 1 0 5: the last is smaller, but longer.
        addEdges(x, "75", "53", "36");
        dueWalk(x, 6, 7, 7, 5, 3, 6);
        addEdges(x, "52", "26");
        dueWalk(x, 6, 7, 7, 5, 2, 6);
        addEdges(x, "74", "43");
        dueWalk(x, 6, 7, 7, 4, 3, 6);
        addEdges(x, "71", "10", "05");
        dueWalk(x, 6, 7, 7, 4, 3, 6);
        // 0 is lower than 3, but a walk over 4 and 0 does not come to 6 in time.
        addEdges(x, "40");
        dueWalk(x, 6, 7, 7, 4, 3, 6);
        addEdges(x, "06");
        dueWalk(x, 6, 7, 7, 1, 0, 6);
    }

    /** 10: "STATE if no frame is waiting." */
    private static void sendNeedsAFrame() {
        StreamMultiplexer x = new StreamMultiplexer();
        due("10 none open", STATE, x.send());
        x.open(0, 1);
        due("10 none waiting", STATE, x.send());
        due("10 nothing recorded", 1, x.told(10));
        x.push(0, 1);
        due("10 one", 0, x.send());
        due("10 none any more", STATE, x.send());
        x.undo();
        due("10 again", 0, x.send());
        due("10 recorded", 3, x.told(10));
    }

    /** 11: "a budget, 0 to 999"; "BAD if budget is out of range." */
    private static void budgets() {
        for (int budget : new int[] {LEAST, -2, -1, 0, 1, 998, 999, 1000, 1001, GREATEST}) {
            boolean possible = budget >= 0 && budget <= 999;
            StreamMultiplexer x = opened(0);
            x.push(0, 1);
            due("11 budget " + budget, possible ? Math.min(1, budget) : BAD, x.sendSome(budget));
            due("11 recorded " + budget, possible ? 3 : 2, x.told(10));
            due("11 sent " + budget, budget >= 1 && possible ? 1 : 0, x.told(3));
        }
        StreamMultiplexer none = new StreamMultiplexer();
        due("11 no frame", 0, none.sendSome(999));
        due("11 no frame, recorded", 1, none.told(10));
        due("11 no frame", BAD, none.sendSome(1000));
    }

    /** 11: "the sum of the sizes of the frames sent by this call, with the next one, is not greater than a budget." */
    private static void sumOfTheBudget() {
        int[] sizes = {20, 30, 1, 49, 99, 1};
        int[] sums = {20, 50, 51, 100, 199, 200};
        for (int budget = 0; budget <= 210; budget++) {
            StreamMultiplexer x = opened(0);
            int sent = 0;
            for (int i = 0; i < sizes.length; i++) {
                x.push(0, sizes[i]);
                sent += sums[i] <= budget ? 1 : 0;
            }
            due("11 sent with " + budget, sent, x.sendSome(budget));
            due("11 amount with " + budget, sent == 0 ? 0 : sums[sent - 1], x.stream(0, 2));
        }
        StreamMultiplexer x = allOpened();
        for (int i = 0; i < 48; i++) {
            x.push(i % 8, 20);
        }
        due("11 all but one", 47, x.sendSome(959));
        x.undo();
        due("11 all", 48, x.sendSome(960));
        x.undo();
        due("11 one call's sum alone", 1, x.sendSome(20));
        due("11 one call's sum alone", 1, x.sendSome(20));
    }

    /** 12: "Returns how many changes can still be undone; STATE if there is none." */
    private static void undoNeedsAChange() {
        StreamMultiplexer x = new StreamMultiplexer();
        due("12 none", STATE, x.undo());
        x.keep(0);
        x.open(8, 1);
        x.send();
        due("12 none still", STATE, x.undo());
        x.commit();
        due("12 one", 0, x.undo());
        due("12 none any more", STATE, x.undo());
        for (int e = 1; e <= 9; e++) {
            x.commit();
        }
        for (int left = 7; left >= 0; left--) {
            due("12 left", left, x.undo());
        }
        due("12 none of nine", STATE, x.undo());
        due("12 the first one stays", 1, x.told(5));
    }

    /** 13: "7 candidates; 8 the stream of the next frame (NONE if no frame is waiting)". */
    private static void toldOfWaitingFrames() {
        StreamMultiplexer x = allOpened();
        dueTold("13 none waiting", x, 8, 0, 0, 0, 0, 0, 0, 0, NONE, 0, 8, 1);
        for (int s = 7; s >= 0; s--) {
            x.push(s, 99);
            due("13 candidates", 8 - s, x.told(7));
            due("13 next", s, x.told(8));
        }
        due("13 sizes", 8 * 99, x.told(4));
        for (int s = 0; s < 8; s++) {
            due("13 next", s, x.told(8));
            x.send();
            due("13 candidates", 7 - s, x.told(7));
        }
        dueTold("13 all sent", x, 8, 0, 8, 8, 0, 0, 0, 0, NONE, 8, 8, 1);
    }

    /** 13: "11 whether the draft has the same edges as the order of the current epoch (1 or 0)". */
    private static void toldWhetherTheDraftIsTheSame() {
        for (int a = 0; a < 8; a++) {
            for (int b = 0; b < 8; b++) {
                if (a == b) {
                    continue;
                }
                StreamMultiplexer x = new StreamMultiplexer();
                x.edge(a, b, 1);
                due("13 not the same", 0, x.told(11));
                x.commit();
                due("13 the same", 1, x.told(11));
                x.edge(a, b, 0);
                due("13 not the same as the current", 0, x.told(11));
                x.edge(b, a, 1);
                due("13 turned", 0, x.told(11));
                x.revert(1);
                due("13 the same again", 1, x.told(11));
                x.revert(0);
                due("13 the same as an earlier one", 0, x.told(11));
            }
        }
        StreamMultiplexer x = new StreamMultiplexer();
        addEdges(x, "01", "12");
        x.commit();
        addEdges(x, "02");
        due("13 the same walks, but not edges", 0, x.told(11));
    }

    /** 13: "BAD if what is out of range." */
    private static void toldBounds() {
        StreamMultiplexer x = opened(0);
        for (int what = 0; what <= 11; what++) {
            due("13 what " + what, 1, x.told(what) != BAD ? 1 : 0);
        }
        for (int what : new int[] {LEAST, -2, -1, 12, 13, GREATEST}) {
            due("13 no what " + what, BAD, x.told(what));
        }
    }

    /** 14: "For a closed stream 1 to 4 are 0." */
    private static void streamOfClosedOnes() {
        StreamMultiplexer x = new StreamMultiplexer();
        for (int s = 0; s < 8; s++) {
            x.open(s, 9);
            x.push(s, 99);
            x.send();
            x.close(s);
            for (int what = 0; what <= 7; what++) {
                due("14 closed " + s + " " + what, what <= 4 ? 0 : NONE, x.stream(s, what));
            }
            due("14 no what", BAD, x.stream(s, 8));
            due("14 no what", BAD, x.stream(s, -1));
        }
    }

    /** 14: "NONE if none is waiting". */
    private static void streamWithoutFrames() {
        StreamMultiplexer x = new StreamMultiplexer();
        x.open(1, 6);
        x.open(2, 1);
        x.push(2, 5);
        int[] none = {1, 6, 0, 0, 0, NONE, NONE, NONE};
        int[] one = {1, 6, 0, 1, 8, 1, 0, 0};
        int[] sent = {1, 6, 8, 0, 0, NONE, NONE, NONE};
        for (int what = 0; what <= 7; what++) {
            due("14 none waiting " + what, none[what], x.stream(1, what));
        }
        x.push(1, 8);
        for (int what = 0; what <= 7; what++) {
            due("14 one waiting " + what, one[what], x.stream(1, what));
        }
        x.send();
        for (int what = 0; what <= 7; what++) {
            due("14 sent " + what, sent[what], x.stream(1, what));
        }
        for (int what : new int[] {LEAST, -1, 8, GREATEST}) {
            due("14 what " + what, BAD, x.stream(1, what));
            due("14 what of a closed one " + what, BAD, x.stream(0, what));
        }
    }

    /** 14: "7 how many frames will be sent before its first waiting frame, if no frames come". */
    private static void streamForecast() {
        StreamMultiplexer x = allOpened();
        for (int s = 0; s < 7; s++) {
            x.edge(s + 1, s, 1);
        }
        x.commit();
        for (int s = 0; s < 8; s++) {
            for (int i = 0; i < 6; i++) {
                x.push(s, 99);
            }
        }
        for (int s = 0; s < 8; s++) {
            due("14 blocked by", 6 * (7 - s), x.stream(s, 6));
            due("14 sent before", 6 * (7 - s), x.stream(s, 7));
            due("14 sent before its last", 6 * (7 - s) + 5, x.frame(s, 5, 3));
            due("14 candidate", s == 7 ? 1 : 0, x.stream(s, 5));
        }
        x.send();
        due("14 one sent", 41, x.stream(0, 7));
        due("14 one sent", 41, x.stream(0, 6));
        due("14 the next", 0, x.stream(7, 7));
        due("14 all still wait", 47, x.told(1));
        // An order that comes later does not count, but a weight does.
        StreamMultiplexer y = opened(0, 1);
        y.push(0, 10);
        y.push(0, 10);
        y.push(1, 10);
        addEdges(y, "10");
        y.commit();
        due("14 not by the new order", 0, y.stream(0, 7));
        due("14 by the amounts", 1, y.stream(1, 7));
        due("14 by the amounts", 2, y.frame(0, 1, 3));
        y.send();
        due("14 after one", 0, y.stream(1, 7));
        due("14 after one", 1, y.stream(0, 7));
    }

    /** 15: "NONE if its queue has not so many frames; BAD if ... k is negative or what is out of range." */
    private static void frameIndexes() {
        StreamMultiplexer x = opened(3);
        for (int count = 0; count <= 6; count++) {
            for (int what = 0; what <= 3; what++) {
                due("15 behind the last " + what, NONE, x.frame(3, count, what));
                due("15 behind the last " + what, NONE, x.frame(3, 6, what));
                due("15 behind the last " + what, NONE, x.frame(3, GREATEST, what));
                due("15 the last " + what, count == 0 ? BAD : what == 1 ? 90 + count - 1 : what == 2 ? 0 : count - 1,
                        x.frame(3, count - 1, what));
                due("15 negative " + what, BAD, x.frame(3, -1, what));
                due("15 negative " + what, BAD, x.frame(3, LEAST, what));
            }
            for (int what : new int[] {LEAST, -1, 4, GREATEST}) {
                due("15 what " + what, BAD, x.frame(3, 0, what));
                due("15 what " + what, BAD, x.frame(3, 6, what));
            }
            x.push(3, 90 + count);
        }
        due("15 other queue", NONE, x.frame(2, 0, 0));
    }

    /** 15: "3 how many frames will be sent before it, if no frames come". */
    private static void frameForecast() {
        StreamMultiplexer x = opened(0, 1, 2);
        addEdges(x, "20");
        for (int i = 0; i < 15; i++) {
            if (i == 6) {
                x.commit();
            }
            x.push(i % 3, 1 + i * 37 % 99);
        }
        int[] before = new int[15];
        for (int i = 0; i < 15; i++) {
            before[i] = x.frame(i % 3, i / 3, 3);
            due("15 stream's first", before[i % 3], x.stream(i % 3, 7));
        }
        for (int sent = 0; sent < 15; sent++) {
            due("15 foretold", sent, before[x.send()]);
        }
    }

    /** 16: "BAD if there is no such entry or what is out of range." */
    private static void logBounds() {
        StreamMultiplexer x = opened(0);
        for (int entries = 0; entries <= 3; entries++) {
            due("16 behind the last", BAD, x.log(entries, 0));
            due("16 the last", entries == 0 ? BAD : entries - 1, x.log(entries - 1, 0));
            for (int k : new int[] {LEAST, -1, 39, 40, GREATEST}) {
                due("16 no entry " + k, BAD, x.log(k, 0));
            }
            for (int what : new int[] {LEAST, -1, 4, GREATEST}) {
                due("16 what " + what, BAD, x.log(0, what));
            }
            x.push(0, 1);
            x.send();
        }
    }

    /** 17: "1 if there is an edge from a to b, 2 if there is none but a precedes b, 3 and 4 the same ... exchanged". */
    private static void relationPrefersTheEdge() {
        StreamMultiplexer x = new StreamMultiplexer();
        addEdges(x, "42", "20", "40");
        due("17 edge beside a walk", 1, x.relation(-1, 4, 0));
        due("17 edge beside a walk", 3, x.relation(-1, 0, 4));
        x.edge(4, 0, 0);
        due("17 walk", 2, x.relation(-1, 4, 0));
        due("17 walk", 4, x.relation(-1, 0, 4));
        x.edge(2, 0, 0);
        due("17 neither", 0, x.relation(-1, 4, 0));
        due("17 neither", 0, x.relation(-1, 0, 4));
        due("17 the other edge", 1, x.relation(-1, 4, 2));
    }

    /** 17: "the epoch, or -1 for the draft"; "BAD if there is no such epoch or stream, or both are the same." */
    private static void relationBounds() {
        StreamMultiplexer x = new StreamMultiplexer();
        for (int current = 0; current <= 9; current++) {
            commitTo(x, current);
            for (int epoch : new int[] {LEAST, -2, -1, 0, current, current + 1, 10, 11, GREATEST}) {
                boolean there = epoch >= -1 && epoch <= current;
                due("17 epoch " + epoch, there ? 0 : BAD, x.relation(epoch, 7, 0));
            }
        }
        for (int s = 0; s < 8; s++) {
            due("17 the same", BAD, x.relation(-1, s, s));
            due("17 the same", BAD, x.relation(9, s, s));
        }
        for (int s : new int[] {LEAST, -1, 8, GREATEST}) {
            due("17 a " + s, BAD, x.relation(0, s, 1));
            due("17 b " + s, BAD, x.relation(0, 1, s));
            due("17 both " + s, BAD, x.relation(0, s, s));
        }
    }

    /** 18: "among the open streams alone": of none and of one. */
    private static void orderOfNoneAndOneOpen() {
        StreamMultiplexer x = new StreamMultiplexer();
        dueOrder("18 none open", x, -1, 0, 0, 0, 0, 0);
        dueOrder("18 none open", x, 0, 0, 0, 0, 0, 0);
        addAllEdgesUpwards(x);
        dueOrder("18 none open, all edges", x, -1, 0, 0, 0, 0, 21);
        for (int s = 0; s < 8; s++) {
            x.open(s, 1);
            dueOrder("18 one open", x, -1, 0, 1, 1, 1, 21);
            dueOrder("18 one open", x, 0, 0, 1, 1, 1, 0);
            x.close(s);
        }
    }

    /** 18: the greatest numbers that there are. */
    private static void orderOfTheFullest() {
        StreamMultiplexer x = allOpened();
        dueOrder("18 no edges", x, -1, 0, 1, 8, 8, 0);
        addAllEdgesUpwards(x);
        dueOrder("18 all edges", x, -1, 28, 8, 1, 1, 21);
        x.commit();
        dueOrder("18 all edges", x, 1, 28, 8, 1, 1, 21);
        x.revert(0);
        for (int s = 0; s < 7; s++) {
            x.edge(s + 1, s, 1);
        }
        dueOrder("18 a chain downwards", x, -1, 28, 8, 1, 1, 0);
        x.revert(0);
        for (int s = 0; s < 7; s++) {
            x.edge(7, s, 1);
        }
        dueOrder("18 one before all", x, -1, 7, 2, 7, 1, 0);
        x.revert(0);
        for (int s = 0; s < 7; s++) {
            x.edge(s, 7, 1);
        }
        dueOrder("18 one behind all", x, -1, 7, 2, 7, 7, 0);
    }

    /** 18: "edges and walks through closed streams count, but not closed streams themselves". */
    private static void orderAmongOpenOnes() {
        StreamMultiplexer x = new StreamMultiplexer();
        for (int s = 0; s < 7; s++) {
            x.edge(s, s + 1, 1);
        }
        x.open(0, 1);
        x.open(7, 1);
        dueOrder("18 ends of a chain", x, -1, 1, 2, 1, 1, 0);
        x.open(3, 1);
        dueOrder("18 with one between", x, -1, 3, 3, 1, 1, 0);
        x.close(0);
        dueOrder("18 the first is closed", x, -1, 1, 2, 1, 1, 0);
        due("18 still an edge", 0, x.edge(0, 7, 1));
        dueOrder("18 needless between closed ones too", x, -1, 1, 2, 1, 1, 1);
        // A zigzag: 0 before 4 and 5, 1 before 5 and 6, 2 before 6; 3 is closed between 0 and 2.
        StreamMultiplexer y = opened(0, 1, 2, 4, 5, 6);
        addEdges(y, "04", "05", "15", "16", "26");
        dueOrder("18 zigzag", y, -1, 5, 2, 3, 3, 0);
        addEdges(y, "03", "32");
        dueOrder("18 joined by a closed one", y, -1, 7, 3, 3, 2, 0);
    }

    /** 18: "edges from a to b, of all streams, for which there is a walk from a to b without this edge". */
    private static void orderNeedlessEdges() {
        StreamMultiplexer x = opened(0);
        addEdges(x, "01", "12", "23");
        due("18 all needed", 0, x.order(-1, 4));
        addEdges(x, "03");
        due("18 a walk of three", 1, x.order(-1, 4));
        addEdges(x, "02");
        due("18 a walk of two", 2, x.order(-1, 4));
        x.edge(1, 2, 0);
        due("18 needed now", 1, x.order(-1, 4));
        x.edge(2, 3, 0);
        due("18 all needed", 0, x.order(-1, 4));
        // 6 comes to 7 by 4 and by 5; neither way is one edge.
        StreamMultiplexer y = new StreamMultiplexer();
        addEdges(y, "64", "47", "65", "57");
        due("18 two walks", 0, y.order(-1, 4));
        addEdges(y, "67");
        due("18 one edge beside two walks", 1, y.order(-1, 4));
        addEdges(y, "45");
        due("18 two edges beside a walk", 3, y.order(-1, 4));
        // Each stream once as the beginning, the middle and the end of the walk.
        for (int a = 0; a < 8; a++) {
            StreamMultiplexer z = new StreamMultiplexer();
            z.edge(a, (a + 3) % 8, 1);
            z.edge((a + 3) % 8, (a + 5) % 8, 1);
            due("18 a walk from " + a, 0, z.order(-1, 4));
            z.edge(a, (a + 5) % 8, 1);
            due("18 an edge beside the walk from " + a, 1, z.order(-1, 4));
        }
    }

    /** 18 and 19: "BAD if there is no such epoch or what is out of range." */
    private static void orderBounds() {
        StreamMultiplexer x = opened(0);
        for (int current = 0; current <= 9; current++) {
            commitTo(x, current);
            for (int epoch : new int[] {LEAST, -2, -1, 0, current, current + 1, 10, 11, GREATEST}) {
                boolean there = epoch >= -1 && epoch <= current;
                due("18 epoch " + epoch, there ? 1 : BAD, x.order(epoch, 1));
                due("19 epoch " + epoch, there ? 1 : BAD, x.lists(epoch));
            }
        }
        for (int what : new int[] {LEAST, -2, -1, 5, 6, GREATEST}) {
            due("18 what " + what, BAD, x.order(-1, what));
            due("18 what " + what, BAD, x.order(9, what));
            due("18 both " + what, BAD, x.order(-2, what));
        }
    }

    /** 19: "Returns the number of such lists (1 if no stream is open)". */
    private static void listsOfNoneAndAll() {
        StreamMultiplexer x = new StreamMultiplexer();
        due("19 none open", 1, x.lists(-1));
        due("19 none open", 1, x.lists(0));
        long lists = 1;
        for (int s = 7; s >= 0; s--) {
            x.open(s, 1);
            lists *= 8 - s;
            due("19 open from " + s, lists, x.lists(-1));
        }
        due("19 of all", 40320, x.lists(0));
        addAllEdgesUpwards(x);
        due("19 all edges", 1, x.lists(-1));
        due("19 none in epoch 0", 40320, x.lists(0));
        for (int s = 0; s < 8; s++) {
            x.close(s);
        }
        due("19 none open, all edges", 1, x.lists(-1));
    }

    /** 19: "in which no stream stands behind one that it precedes." */
    private static void listsOfShapes() {
        StreamMultiplexer x = allOpened();
        addEdges(x, "01", "02", "03", "04", "05", "06", "07");
        due("19 one before all", 5040, x.lists(-1));
        x.revert(0);
        addEdges(x, "07", "17", "27");
        due("19 three before one", 10080, x.lists(-1));
        x.revert(0);
        // Zigzags of four: five lists each, and 70 ways to shuffle two of them.
        addEdges(x, "01", "21", "23", "45", "65", "67");
        due("19 zigzags", 1750, x.lists(-1));
        x.close(2);
        x.close(6);
        due("19 zigzags cut", 180, x.lists(-1));
        x.revert(0);
        addEdges(x, "02", "23");
        due("19 through a closed one", 360, x.lists(-1));
    }

    /** 20: "in an image, replacing what it kept before." */
    private static void keepReplaces() {
        StreamMultiplexer x = opened(0);
        due("20 none waiting", 0, x.keep(0));
        due("20 none waiting", 0, x.keep(1));
        x.push(0, 1);
        due("20 one waiting", 1, x.keep(1));
        x.commit();
        x.push(0, 2);
        due("20 replaced", 2, x.keep(0));
        due("20 no changes", 4, x.told(10));
        x.send();
        due("20 the other one", 1, x.back(1));
        due("20 its epoch", 0, x.told(5));
        due("20 the first one", 2, x.back(0));
        due("20 its epoch", 1, x.told(5));
        due("20 replaced by less", 2, x.keep(1));
        x.revert(0);
        x.sendSome(999);
        due("20 replaced by none", 0, x.keep(1));
        x.push(0, 1);
        due("20 back to none", 0, x.back(1));
    }

    /** 20 and 21: "BAD if there is no such image". */
    private static void imageBounds() {
        StreamMultiplexer x = opened(0);
        for (int i : NO_IMAGES) {
            due("20 no image " + i, BAD, x.keep(i));
            due("21 no image " + i, BAD, x.back(i));
        }
        due("21 nothing kept", STATE, x.back(0));
        due("21 nothing kept", STATE, x.back(1));
        x.keep(0);
        x.keep(1);
        for (int i : NO_IMAGES) {
            due("20 no image " + i, BAD, x.keep(i));
            due("21 no image " + i, BAD, x.back(i));
        }
    }

    /** 21: "STATE if it keeps nothing." */
    private static void backNeedsAnImage() {
        StreamMultiplexer x = opened(0, 1);
        due("21 neither", STATE, x.back(0));
        due("21 neither", STATE, x.back(1));
        x.keep(1);
        due("21 the other one", STATE, x.back(0));
        due("21 kept", 0, x.back(1));
        x.undo();
        x.undo();
        x.undo();
        due("21 undo does not forget it", 0, x.back(1));
        due("21 open ones", 2, x.told(0));
        due("21 the other one still", STATE, x.back(0));
    }

    /** 21: "Makes what an image keeps the present state; the image stays." */
    private static void backMakesAllAsItWas() {
        Supplier<StreamMultiplexer> kept = () -> {
            StreamMultiplexer x = new StreamMultiplexer();
            for (int s = 0; s < 6; s++) {
                x.open(s, 9 - s);
                x.push(s, 10 + s);
            }
            addEdges(x, "12", "23", "67");
            x.commit();
            x.push(3, 77);
            x.push(2, 78);
            x.send();
            x.sendSome(20);
            x.close(0);
            x.keep(0);
            return x;
        };
        Supplier<StreamMultiplexer> changed = () -> {
            StreamMultiplexer x = kept.get();
            x.sendSome(999);
            x.close(1);
            x.open(0, 2);
            x.open(7, 2);
            x.setWeight(2, 1);
            x.edge(1, 2, 0);
            x.edge(7, 5, 1);
            commitTo(x, 9);
            for (int i = 0; i < 45; i++) {
                x.push(7, 1);
                x.send();
            }
            x.push(7, 3);
            return x;
        };
        Supplier<StreamMultiplexer> back = () -> {
            StreamMultiplexer x = changed.get();
            due("21 waiting", kept.get().told(1), x.back(0));
            return x;
        };
        Picture.checkSameNow("21 back", kept, back);
        Picture.checkSameNow("21 back undone", changed, () -> {
            StreamMultiplexer x = back.get();
            x.undo();
            return x;
        });
        Picture.checkSameNow("21 changed and back again", kept, () -> {
            StreamMultiplexer x = back.get();
            x.edge(0, 7, 1);
            x.commit();
            x.push(5, 1);
            x.sendSome(500);
            x.back(0);
            return x;
        });
    }

    /** 21: "it is recorded behind those that are recorded already", of which the oldest one is dropped. */
    private static void backWithAFullHistory() {
        StreamMultiplexer x = new StreamMultiplexer();
        x.keep(0);
        for (int s = 0; s < 8; s++) {
            x.open(s, 1);
        }
        due("21 full", 8, x.told(10));
        due("21 back", 0, x.back(0));
        due("21 full still", 8, x.told(10));
        due("21 none open", 0, x.told(0));
        due("21 undo", 7, x.undo());
        for (int open = 8; open > 1; open--) {
            due("21 open", open, x.told(0));
            due("21 undo", open - 2, x.undo());
        }
        due("21 the oldest is dropped", 1, x.told(0));
        due("21 none left", STATE, x.undo());
        due("21 back twice", 0, x.back(0));
        due("21 back twice", 0, x.back(0));
        due("21 both recorded", 2, x.told(10));
        x.undo();
        due("21 between them", 0, x.told(0));
        x.undo();
        due("21 before them", 1, x.told(0));
    }
}
