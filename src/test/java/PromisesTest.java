/** For each promise of the document: ordinary inputs, the edges that it names, and wrong inputs. */
public final class PromisesTest extends TestBase {
    public static void main(String[] args) {
        aNewObject();
        open();
        openRecords();
        close();
        closeKeepsEdges();
        setWeight();
        push();
        pushTakesTheCurrentEpoch();
        edge();
        edgeCycles();
        commit();
        revert();
        witness();
        witnessIsShortestThenSmallest();
        send();
        sendByWeights();
        sendBlocked();
        sendThroughClosedStreams();
        sendSome();
        sendSomeStopsAtTheNextFrame();
        undo();
        undoRestoresEverything();
        undoDropsTheOldest();
        refusedCallsRecordNothing();
        told();
        stream();
        streamForecast();
        frame();
        log();
        logIsBounded();
        relation();
        orderNumbers();
        orderWithClosedStreams();
        orderOfEpochs();
        lists();
        keep();
        back();
        backIsAChange();
        callsAfterTheLast();
        Check.finish();
    }

    private static void aNewObject() {
        StreamMultiplexer x = new StreamMultiplexer();
        int[] told = {0, 0, 0, 0, 0, 0, 0, 0, NONE, 0, 0, 1};
        for (int what = 0; what < told.length; what++) {
            due("1 told " + what, told[what], x.told(what));
        }
        int[] closed = {0, 0, 0, 0, 0, NONE, NONE, NONE};
        for (int s = 0; s < 8; s++) {
            for (int what = 0; what < closed.length; what++) {
                due("1 stream " + s + " " + what, closed[what], x.stream(s, what));
            }
        }
        due("1 log", BAD, x.log(0, 0));
        due("1 back 0", STATE, x.back(0));
        due("1 back 1", STATE, x.back(1));
        due("1 undo", STATE, x.undo());
        due("1 lists", 1, x.lists(0));
        due("1 epoch 0", 0, x.relation(0, 0, 1));
        due("1 epoch 1", BAD, x.relation(1, 0, 1));
    }

    private static void open() {
        StreamMultiplexer x = new StreamMultiplexer();
        due("2 open", 1, x.open(7, 1));
        due("2 open", 2, x.open(0, 9));
        due("2 weight", 1, x.stream(7, 1));
        due("2 weight", 9, x.stream(0, 1));
        due("2 is open", 1, x.stream(0, 0));
        due("2 again", STATE, x.open(0, 5));
        due("2 weight stays", 9, x.stream(0, 1));
        for (int s : new int[] {-1, 8, LEAST, GREATEST}) {
            due("2 no stream " + s, BAD, x.open(s, 1));
        }
        for (int weight : new int[] {0, 10, -1, LEAST, GREATEST}) {
            due("2 weight " + weight, BAD, x.open(1, weight));
            due("2 BAD before STATE " + weight, BAD, x.open(0, weight));
        }
        due("2 still", 2, x.told(0));
    }

    private static void openRecords() {
        StreamMultiplexer x = opened(3);
        x.push(3, 50);
        x.send();
        due("2 amount", 50, x.stream(3, 2));
        due("2 close", 50, x.close(3));
        due("2 reopen", 1, x.open(3, 4));
        due("2 amount from 0", 0, x.stream(3, 2));
        due("2 new weight", 4, x.stream(3, 1));
        due("2 recorded", 5, x.told(10));
        due("2 undo", 4, x.undo());
        due("2 closed again", 0, x.stream(3, 0));
        due("2 undo", 3, x.undo());
        due("2 open with its amount", 50, x.stream(3, 2));
    }

    private static void close() {
        StreamMultiplexer x = opened(2, 5);
        due("3 amount", 0, x.close(2));
        due("3 closed", STATE, x.close(2));
        due("3 told", 1, x.told(0));
        x.push(5, 20);
        x.push(5, 30);
        due("3 waiting", STATE, x.close(5));
        x.send();
        due("3 waiting", STATE, x.close(5));
        x.send();
        due("3 amount", 50, x.close(5));
        for (int what = 0; what <= 4; what++) {
            due("3 closed stream " + what, 0, x.stream(5, what));
        }
        due("3 recorded", 8, x.told(10));
        due("3 undo", 7, x.undo());
        due("3 open again", 50, x.stream(5, 2));
        for (int s : new int[] {-1, 8, LEAST, GREATEST}) {
            due("3 no stream " + s, BAD, x.close(s));
        }
    }

    private static void closeKeepsEdges() {
        StreamMultiplexer x = opened(0, 1, 2);
        addEdges(x, "01", "12");
        x.commit();
        x.close(1);
        due("3 edges stay", 2, x.told(6));
        due("3 draft", 1, x.relation(-1, 0, 1));
        due("3 epoch", 1, x.relation(1, 1, 2));
    }

    private static void setWeight() {
        StreamMultiplexer x = opened(4);
        due("4 previous", 1, x.setWeight(4, 9));
        due("4 previous", 9, x.setWeight(4, 3));
        due("4 weight", 3, x.stream(4, 1));
        due("4 recorded", 3, x.told(10));
        due("4 undo", 2, x.undo());
        due("4 weight", 9, x.stream(4, 1));
        due("4 closed", STATE, x.setWeight(5, 1));
        for (int s : new int[] {-1, 8, LEAST, GREATEST}) {
            due("4 no stream " + s, BAD, x.setWeight(s, 1));
        }
        for (int weight : new int[] {0, 10, LEAST, GREATEST}) {
            due("4 weight " + weight, BAD, x.setWeight(4, weight));
            due("4 BAD before STATE " + weight, BAD, x.setWeight(5, weight));
        }
        due("4 nothing changed", 9, x.stream(4, 1));
        due("4 same", 9, x.setWeight(4, 9));
        due("4 same is recorded", 3, x.told(10));
    }

    private static void push() {
        StreamMultiplexer x = opened(0, 7);
        due("5 number", 0, x.push(7, 1));
        due("5 number", 1, x.push(0, 99));
        due("5 number", 2, x.push(7, 2));
        due("5 at the end", 2, x.frame(7, 1, 0));
        due("5 first stays", 0, x.frame(7, 0, 0));
        for (int i = 3; i <= 6; i++) {
            due("5 number", i, x.push(7, i));
        }
        due("5 six", 6, x.stream(7, 3));
        due("5 full", FULL, x.push(7, 1));
        due("5 BAD before FULL", BAD, x.push(7, 100));
        due("5 other queue", 7, x.push(0, 1));
        due("5 closed", STATE, x.push(1, 1));
        for (int s : new int[] {-1, 8, LEAST, GREATEST}) {
            due("5 no stream " + s, BAD, x.push(s, 1));
        }
        for (int size : new int[] {0, 100, -1, LEAST, GREATEST}) {
            due("5 size " + size, BAD, x.push(0, size));
            due("5 BAD before STATE " + size, BAD, x.push(1, size));
        }
        due("5 have come", 8, x.told(2));
        due("5 undo", 7, x.undo());
        due("5 number again", 7, x.push(0, 1));
        x.send();
        due("5 numbers go on", 8, x.push(0, 1));
    }

    private static void pushTakesTheCurrentEpoch() {
        StreamMultiplexer x = opened(0);
        x.push(0, 1);
        x.commit();
        x.push(0, 1);
        x.commit();
        x.commit();
        x.push(0, 1);
        x.revert(0);
        x.push(0, 1);
        due("5 epoch", 0, x.frame(0, 0, 2));
        due("5 epoch", 1, x.frame(0, 1, 2));
        due("5 epoch", 3, x.frame(0, 2, 2));
        due("5 epoch", 3, x.frame(0, 3, 2));
    }

    private static void edge() {
        StreamMultiplexer x = new StreamMultiplexer();
        due("6 add", 0, x.edge(0, 7, 1));
        due("6 add again", 1, x.edge(0, 7, 1));
        due("6 count", 1, x.told(6));
        due("6 remove", 1, x.edge(0, 7, 0));
        due("6 remove again", 0, x.edge(0, 7, 0));
        due("6 count", 0, x.told(6));
        due("6 all recorded", 4, x.told(10));
        due("6 undo", 3, x.undo());
        due("6 undo", 2, x.undo());
        due("6 back", 1, x.relation(-1, 0, 7));
        for (int s : new int[] {-1, 8, LEAST, GREATEST}) {
            due("6 from " + s, BAD, x.edge(s, 1, 1));
            due("6 to " + s, BAD, x.edge(1, s, 0));
            due("6 on " + s, BAD, x.edge(0, 1, s));
        }
        due("6 same", BAD, x.edge(3, 3, 1));
        due("6 same", BAD, x.edge(3, 3, 0));
        due("6 on", BAD, x.edge(0, 1, 2));
        due("6 BAD before CYCLE", BAD, x.edge(7, 0, 2));
    }

    private static void edgeCycles() {
        StreamMultiplexer x = new StreamMultiplexer();
        addEdges(x, "01", "12", "23");
        due("6 turned", CYCLE, x.edge(1, 0, 1));
        due("6 far", CYCLE, x.edge(3, 0, 1));
        due("6 removal is none", 0, x.edge(3, 0, 0));
        due("6 shortcut", 0, x.edge(0, 3, 1));
        due("6 remove", 1, x.edge(1, 2, 0));
        due("6 by the shortcut", CYCLE, x.edge(3, 0, 1));
        due("6 freed", 0, x.edge(2, 0, 1));
        due("6 changed nothing", 4, x.told(6));
        due("6 recorded", 7, x.told(10));
    }

    private static void commit() {
        StreamMultiplexer x = opened(0, 1);
        addEdges(x, "01");
        due("7 epoch", 1, x.commit());
        due("7 draft stays", 1, x.relation(-1, 0, 1));
        due("7 order", 1, x.relation(1, 0, 1));
        due("7 earlier order", 0, x.relation(0, 0, 1));
        x.edge(0, 1, 0);
        due("7 order stays", 1, x.relation(1, 0, 1));
        due("7 differs", 0, x.told(11));
        for (int e = 2; e <= 9; e++) {
            due("7 epoch", e, x.commit());
        }
        due("7 full", FULL, x.commit());
        due("7 current", 9, x.told(5));
        due("7 nothing recorded", 8, x.told(10));
        due("7 undo", 7, x.undo());
        due("7 current", 8, x.told(5));
        due("7 gone", BAD, x.relation(9, 0, 1));
        due("7 again", 9, x.commit());
    }

    private static void revert() {
        StreamMultiplexer x = new StreamMultiplexer();
        addEdges(x, "01", "12");
        x.commit();
        addEdges(x, "23");
        due("8 edges", 2, x.revert(1));
        due("8 gone", 0, x.relation(-1, 2, 3));
        due("8 there", 1, x.relation(-1, 1, 2));
        due("8 walk", 2, x.relation(-1, 0, 2));
        due("8 same", 1, x.told(11));
        due("8 current stays", 1, x.told(5));
        due("8 to none", 0, x.revert(0));
        due("8 no walk", 0, x.relation(-1, 0, 2));
        due("8 recorded", 6, x.told(10));
        due("8 undo", 5, x.undo());
        due("8 undo", 4, x.undo());
        due("8 draft again", 3, x.told(6));
        x.edge(0, 1, 0);
        due("8 epoch stays", 2, x.revert(1));
        for (int e : new int[] {-1, 2, 9, 10, LEAST, GREATEST}) {
            due("8 no epoch " + e, BAD, x.revert(e));
        }
    }

    private static void witness() {
        StreamMultiplexer x = new StreamMultiplexer();
        addEdges(x, "76", "65", "54", "43", "32", "21", "10");
        due("9 edges", 7, x.witness(0, 7, -1));
        for (int k = 0; k <= 7; k++) {
            due("9 stream " + k, 7 - k, x.witness(0, 7, k));
        }
        due("9 not so many", NONE, x.witness(0, 7, 8));
        due("9 not so many", NONE, x.witness(0, 7, GREATEST));
        due("9 other way", NONE, x.witness(7, 0, -1));
        due("9 other way", NONE, x.witness(7, 0, 0));
        due("9 one edge", 1, x.witness(6, 7, -1));
        due("9 one edge", 7, x.witness(6, 7, 0));
        due("9 one edge", 6, x.witness(6, 7, 1));
        due("9 one edge", NONE, x.witness(6, 7, 2));
        for (int s : new int[] {-1, 8, LEAST, GREATEST}) {
            due("9 from " + s, BAD, x.witness(s, 1, 0));
            due("9 to " + s, BAD, x.witness(1, s, 0));
        }
        due("9 same", BAD, x.witness(2, 2, -1));
        due("9 k", BAD, x.witness(0, 7, -2));
        due("9 k", BAD, x.witness(7, 0, -2));
        due("9 k", BAD, x.witness(0, 7, LEAST));
        due("9 no change", 7, x.told(10));
    }

    private static void witnessIsShortestThenSmallest() {
        StreamMultiplexer x = new StreamMultiplexer();
        // From 5 to 0: 5 1 2 0 has more edges than 5 4 0 and 5 3 0.
        addEdges(x, "51", "12", "20", "54", "40");
        due("9 shortest", 2, x.witness(0, 5, -1));
        due("9 shortest", 4, x.witness(0, 5, 1));
        addEdges(x, "53", "30");
        due("9 smallest", 3, x.witness(0, 5, 1));
        due("9 ends", 0, x.witness(0, 5, 2));
        // From 7 to 0 over 5 or 6: the smallest list goes over 5, and then over 3.
        addEdges(x, "76", "64", "75");
        due("9 edges", 3, x.witness(0, 7, -1));
        due("9 first", 5, x.witness(0, 7, 1));
        due("9 second", 3, x.witness(0, 7, 2));
        addEdges(x, "70");
        due("9 straight", 1, x.witness(0, 7, -1));

        StreamMultiplexer y = new StreamMultiplexer();
        addEdges(y, "70", "02");
        due("9 from 0", 1, y.witness(2, 0, -1));
        due("9 over 0", 2, y.witness(2, 7, -1));
        due("9 over 0", 0, y.witness(2, 7, 1));
    }

    private static void send() {
        StreamMultiplexer x = opened(1, 2);
        due("10 none", STATE, x.send());
        x.push(2, 10);
        x.push(1, 10);
        x.push(1, 5);
        due("10 lowest of equal", 1, x.send());
        due("10 least amount", 0, x.send());
        due("10 in order", 2, x.send());
        due("10 none", STATE, x.send());
        due("10 amount", 15, x.stream(1, 2));
        due("10 sent", 3, x.told(3));
        due("10 recorded", 8, x.told(10));
        due("10 undo", 7, x.undo());
        due("10 waits again", 2, x.frame(1, 0, 0));
        due("10 again", 2, x.send());
    }

    private static void sendByWeights() {
        StreamMultiplexer x = new StreamMultiplexer();
        x.open(0, 2);
        x.open(1, 3);
        x.push(0, 9);
        x.push(1, 14);
        x.push(0, 9);
        x.push(1, 1);
        x.push(1, 13);
        x.push(1, 1);
        x.push(0, 1);
        due("10 0/2 and 0/3", 0, x.send());
        due("10 9/2 and 0/3", 1, x.send());
        // 9/2 < 14/3, but both are 4 if they are rounded, and the amounts alone say so too.
        due("10 9/2 and 14/3", 2, x.send());
        due("10 18/2 and 14/3", 3, x.send());
        due("10 18/2 and 15/3", 4, x.send());
        // 18/2 < 28/3
        due("10 18/2 and 28/3", 6, x.send());
        due("10 last", 5, x.send());

        StreamMultiplexer y = new StreamMultiplexer();
        y.open(0, 3);
        y.open(1, 2);
        y.push(0, 14);
        y.push(1, 9);
        y.push(0, 1);
        y.push(1, 1);
        y.send();
        y.send();
        // 14/3 > 9/2: rounded they are equal, and the lowest stream would be taken.
        due("10 not rounded", 3, y.send());
        due("10 14/3 and 10/2", 2, y.send());
    }

    private static void sendBlocked() {
        StreamMultiplexer x = opened(0, 1);
        x.push(0, 1);
        addEdges(x, "10");
        x.commit();
        due("10 later frame of 1", 1, x.push(1, 1));
        due("10 earlier epoch is free", 1, x.stream(0, 5));
        x.push(0, 1);
        due("10 first", 0, x.send());
        due("10 now blocked", 0, x.stream(0, 5));
        due("10 candidates", 1, x.told(7));
        due("10 what precedes", 1, x.send());
        due("10 then", 2, x.send());

        // A frame that came later, in the same epoch, blocks too.
        StreamMultiplexer y = opened(0, 1);
        addEdges(y, "10");
        y.commit();
        y.push(0, 1);
        y.push(1, 99);
        y.push(1, 99);
        due("10 blocked by both", 2, y.stream(0, 6));
        due("10 what precedes", 1, y.send());
        due("10 what precedes", 2, y.send());
        due("10 then", 0, y.send());

        // The order of the blocked frame's epoch counts, not that of the blocking one.
        StreamMultiplexer z = opened(0, 1);
        addEdges(z, "10");
        z.commit();
        z.push(1, 9);
        z.edge(1, 0, 0);
        z.commit();
        z.push(0, 9);
        due("10 not blocked", 1, z.send());
    }

    private static void sendThroughClosedStreams() {
        StreamMultiplexer x = opened(0, 2);
        addEdges(x, "21", "10");
        x.commit();
        x.push(0, 1);
        x.push(2, 1);
        due("10 blocked", 1, x.stream(0, 6));
        due("10 2 first", 1, x.send());
        due("10 then 0", 0, x.send());
    }

    private static void sendSome() {
        StreamMultiplexer x = opened(0, 1);
        due("11 none", 0, x.sendSome(999));
        due("11 recorded all the same", 3, x.told(10));
        x.push(0, 10);
        x.push(1, 20);
        x.push(0, 30);
        due("11 too little", 0, x.sendSome(9));
        due("11 zero", 0, x.sendSome(0));
        due("11 just one", 1, x.sendSome(29));
        x.undo();
        due("11 just two", 2, x.sendSome(30));
        due("11 one change", 8, x.told(10));
        due("11 sum", 30, x.told(4));
        x.undo();
        due("11 undone", 60, x.told(4));
        due("11 all", 3, x.sendSome(60));
        due("11 sent", 3, x.told(3));
        due("11 amount", 40, x.stream(0, 2));
        for (int budget : new int[] {-1, 1000, LEAST, GREATEST}) {
            due("11 budget " + budget, BAD, x.sendSome(budget));
        }

        StreamMultiplexer y = opened(0, 1);
        for (int i = 0; i < 6; i++) {
            y.push(0, 99);
            y.push(1, 99);
        }
        due("11 greatest", 10, y.sendSome(999));
        due("11 rest", 2, y.sendSome(198));
    }

    private static void sendSomeStopsAtTheNextFrame() {
        StreamMultiplexer x = opened(0, 1);
        x.push(0, 50);
        x.push(1, 1);
        due("11 a later one is not taken", 0, x.sendSome(49));
        due("11 both", 2, x.sendSome(51));
    }

    private static void undo() {
        StreamMultiplexer x = new StreamMultiplexer();
        due("12 none", STATE, x.undo());
        x.open(0, 1);
        x.open(1, 1);
        due("12 left", 1, x.undo());
        due("12 open", 1, x.told(0));
        due("12 left", 0, x.undo());
        due("12 none", STATE, x.undo());
        due("12 closed", 0, x.told(0));
    }

    private static void undoRestoresEverything() {
        StreamMultiplexer x = opened(0, 1);
        x.push(0, 7);
        x.push(1, 8);
        addEdges(x, "01");
        due("12 sends", 0, x.send());
        x.commit();
        x.revert(0);
        x.setWeight(0, 5);
        due("12 undo", 7, x.undo());
        due("12 weight", 1, x.stream(0, 1));
        due("12 undo", 6, x.undo());
        due("12 draft", 1, x.told(6));
        due("12 undo", 5, x.undo());
        due("12 epoch", 0, x.told(5));
        due("12 undo", 4, x.undo());
        due("12 amount", 0, x.stream(0, 2));
        due("12 log", 0, x.told(9));
        due("12 sent", 0, x.told(3));
        due("12 waiting", 7, x.frame(0, 0, 1));
        due("12 undo", 3, x.undo());
        due("12 no edge", 0, x.told(6));
        due("12 undo", 2, x.undo());
        due("12 come", 1, x.told(2));
        due("12 undo", 1, x.undo());
        due("12 come", 0, x.told(2));
        due("12 changes go on", 0, x.push(1, 3));
        due("12 recorded", 2, x.told(10));
    }

    private static void undoDropsTheOldest() {
        StreamMultiplexer x = opened(0);
        for (int weight = 1; weight <= 9; weight++) {
            x.setWeight(0, weight);
        }
        x.setWeight(0, 1);
        due("12 most", 8, x.told(10));
        for (int weight = 9; weight >= 2; weight--) {
            due("12 left", weight - 2, x.undo());
            due("12 weight", weight, x.stream(0, 1));
        }
        due("12 none", STATE, x.undo());
        due("12 stays", 2, x.stream(0, 1));
        x.setWeight(0, 7);
        due("12 again", 0, x.undo());
        due("12 weight", 2, x.stream(0, 1));
    }

    private static void refusedCallsRecordNothing() {
        StreamMultiplexer x = opened(0);
        addEdges(x, "01");
        int before = x.told(10);
        x.open(0, 1);
        x.open(8, 1);
        x.close(1);
        x.setWeight(1, 1);
        x.push(1, 1);
        x.push(0, 0);
        x.edge(1, 0, 1);
        x.edge(1, 1, 1);
        x.revert(1);
        x.send();
        x.sendSome(1000);
        x.back(0);
        x.back(2);
        due("12 nothing recorded", before, x.told(10));
        x.keep(0);
        x.witness(0, 1, 0);
        x.lists(-1);
        x.order(-1, 2);
        x.stream(0, 7);
        due("12 no changes", before, x.told(10));
    }

    private static void told() {
        StreamMultiplexer x = opened(0, 1, 2);
        addEdges(x, "01", "12");
        x.commit();
        x.push(0, 10);
        x.push(1, 20);
        x.push(2, 30);
        x.push(0, 40);
        x.send();
        addEdges(x, "02");
        int[] due = {3, 3, 4, 1, 90, 1, 3, 1, 0, 1, 8, 0};
        for (int what = 0; what < due.length; what++) {
            due("13 told " + what, due[what], x.told(what));
        }
        x.edge(0, 2, 0);
        due("13 same edges", 1, x.told(11));
        x.edge(0, 1, 0);
        x.edge(0, 2, 1);
        due("13 as many, but others", 0, x.told(11));
        x.sendSome(999);
        due("13 no next", NONE, x.told(8));
        due("13 no candidates", 0, x.told(7));
        for (int what : new int[] {-1, 12, LEAST, GREATEST}) {
            due("13 what " + what, BAD, x.told(what));
        }
    }

    private static void stream() {
        StreamMultiplexer x = new StreamMultiplexer();
        x.open(0, 2);
        x.open(3, 7);
        addEdges(x, "03");
        x.commit();
        x.push(0, 5);
        x.push(0, 6);
        x.push(3, 7);
        x.push(3, 8);
        x.send();
        int[] first = {1, 2, 5, 1, 6, 1, 0, 0};
        int[] second = {1, 7, 0, 2, 15, 0, 1, 1};
        int[] closed = {0, 0, 0, 0, 0, NONE, NONE, NONE};
        for (int what = 0; what <= 7; what++) {
            due("14 stream 0 " + what, first[what], x.stream(0, what));
            due("14 stream 3 " + what, second[what], x.stream(3, what));
            due("14 stream 1 " + what, closed[what], x.stream(1, what));
        }
        x.sendSome(999);
        int[] empty = {1, 7, 15, 0, 0, NONE, NONE, NONE};
        for (int what = 0; what <= 7; what++) {
            due("14 stream 3 " + what, empty[what], x.stream(3, what));
        }
        for (int bad : new int[] {-1, 8, LEAST, GREATEST}) {
            due("14 no stream " + bad, BAD, x.stream(bad, 0));
            due("14 what " + bad, BAD, x.stream(0, bad));
        }
    }

    private static void streamForecast() {
        StreamMultiplexer x = opened(0, 1, 2);
        x.push(2, 1);
        addEdges(x, "20", "21");
        x.commit();
        x.push(0, 1);
        x.push(1, 1);
        x.push(2, 1);
        x.push(2, 1);
        due("14 blockers", 3, x.stream(0, 6));
        due("14 blockers", 3, x.stream(1, 6));
        due("14 before 0", 3, x.stream(0, 7));
        due("14 before 1", 4, x.stream(1, 7));
        due("14 before 2", 0, x.stream(2, 7));
        due("14 still waiting", 5, x.told(1));
        due("14 nothing sent", 0, x.told(3));
        due("14 nothing logged", 0, x.told(9));
        due("14 no amount", 0, x.stream(2, 2));

        StreamMultiplexer y = opened(0, 1);
        for (int i = 0; i < 6; i++) {
            y.push(0, 1);
        }
        y.push(1, 99);
        due("14 amounts grow in the forecast", 1, y.stream(1, 7));
        y.push(1, 99);
        due("14 last", 7, y.frame(1, 1, 3));
    }

    private static void frame() {
        StreamMultiplexer x = opened(0, 6);
        x.push(0, 11);
        x.push(6, 12);
        x.commit();
        x.push(6, 13);
        due("15 number", 1, x.frame(6, 0, 0));
        due("15 size", 12, x.frame(6, 0, 1));
        due("15 epoch", 0, x.frame(6, 0, 2));
        due("15 before", 1, x.frame(6, 0, 3));
        due("15 number", 2, x.frame(6, 1, 0));
        due("15 size", 13, x.frame(6, 1, 1));
        due("15 epoch", 1, x.frame(6, 1, 2));
        due("15 before", 2, x.frame(6, 1, 3));
        for (int what = 0; what <= 3; what++) {
            due("15 not so many " + what, NONE, x.frame(6, 2, what));
            due("15 not so many " + what, NONE, x.frame(6, 6, what));
            due("15 not so many " + what, NONE, x.frame(6, GREATEST, what));
            due("15 closed " + what, NONE, x.frame(1, 0, what));
        }
        for (int s : new int[] {-1, 8, LEAST, GREATEST}) {
            due("15 no stream " + s, BAD, x.frame(s, 0, 0));
        }
        due("15 k", BAD, x.frame(0, -1, 0));
        due("15 k", BAD, x.frame(0, LEAST, 0));
        for (int what : new int[] {-1, 4, LEAST, GREATEST}) {
            due("15 what " + what, BAD, x.frame(0, 0, what));
            due("15 BAD before NONE " + what, BAD, x.frame(0, 5, what));
        }
        x.send();
        x.send();
        due("15 moved up", 2, x.frame(6, 0, 0));
        due("15 before", 0, x.frame(6, 0, 3));
    }

    private static void log() {
        StreamMultiplexer x = opened(2, 5);
        x.push(5, 50);
        x.commit();
        x.push(2, 20);
        x.send();
        x.send();
        int[] oldest = {1, 2, 20, 1};
        int[] latest = {0, 5, 50, 0};
        for (int what = 0; what <= 3; what++) {
            due("16 oldest " + what, oldest[what], x.log(0, what));
            due("16 latest " + what, latest[what], x.log(1, what));
        }
        for (int bad : new int[] {-1, 4, LEAST, GREATEST}) {
            due("16 no entry " + bad, BAD, x.log(bad, 0));
            due("16 what " + bad, BAD, x.log(0, bad));
        }
        due("16 no entry", BAD, x.log(2, 0));
        due("16 no entry", BAD, x.log(2, 4));
        x.undo();
        due("16 undone", BAD, x.log(1, 0));
    }

    private static void logIsBounded() {
        StreamMultiplexer x = opened(1);
        for (int i = 0; i < 40; i++) {
            x.push(1, 1 + i);
            x.send();
        }
        due("16 forty", 40, x.told(9));
        due("16 oldest", 0, x.log(0, 0));
        due("16 latest", 39, x.log(39, 0));
        x.push(1, 77);
        x.push(1, 78);
        due("16 two more", 2, x.sendSome(999));
        due("16 forty still", 40, x.told(9));
        due("16 all sent", 42, x.told(3));
        due("16 oldest", 2, x.log(0, 0));
        due("16 its size", 3, x.log(0, 2));
        due("16 latest", 41, x.log(39, 0));
        due("16 its size", 78, x.log(39, 2));
        due("16 no entry", BAD, x.log(40, 0));
        x.undo();
        due("16 the dropped ones again", 0, x.log(0, 0));
        due("16 the latest again", 39, x.log(39, 0));

        StreamMultiplexer y = opened(3, 5);
        for (int i = 0; i < 41; i++) {
            y.push(i % 2 == 0 ? 3 : 5, 1);
            y.send();
        }
        due("16 stream moved up", 5, y.log(0, 1));
        due("16 stream of the latest", 3, y.log(39, 1));
        y.undo();
        due("16 stream restored", 3, y.log(0, 1));
        due("16 stream restored", 5, y.log(39, 1));
    }

    private static void relation() {
        StreamMultiplexer x = new StreamMultiplexer();
        addEdges(x, "01", "12", "02", "67");
        x.commit();
        addEdges(x, "23");
        due("17 edge and walk", 1, x.relation(-1, 0, 2));
        due("17 walk", 2, x.relation(-1, 0, 3));
        due("17 edge turned", 3, x.relation(-1, 7, 6));
        due("17 edge and walk turned", 3, x.relation(-1, 2, 0));
        due("17 walk turned", 4, x.relation(-1, 3, 0));
        due("17 none", 0, x.relation(-1, 3, 6));
        addEdges(x, "40");
        due("17 walk over 0", 2, x.relation(-1, 4, 1));
        due("17 of epoch 1", 0, x.relation(1, 0, 3));
        due("17 of epoch 1", 1, x.relation(1, 0, 2));
        due("17 of epoch 0", 0, x.relation(0, 0, 2));
        for (int e : new int[] {-2, 2, 10, LEAST, GREATEST}) {
            due("17 no epoch " + e, BAD, x.relation(e, 0, 1));
        }
        for (int s : new int[] {-1, 8, LEAST, GREATEST}) {
            due("17 no stream " + s, BAD, x.relation(-1, s, 1));
            due("17 no stream " + s, BAD, x.relation(-1, 1, s));
        }
        due("17 same", BAD, x.relation(-1, 4, 4));
    }

    private static void orderNumbers() {
        StreamMultiplexer x = allOpened();
        int[] none = {0, 1, 8, 8, 0};
        for (int what = 0; what <= 4; what++) {
            due("18 no edges " + what, none[what], x.order(-1, what));
        }
        // 0 1 2 3 in a chain with two needless edges, 4 before 5 and 6, 7 alone.
        addEdges(x, "01", "12", "23", "02", "03", "45", "46");
        int[] some = {8, 4, 4, 3, 2};
        for (int what = 0; what <= 4; what++) {
            due("18 some edges " + what, some[what], x.order(-1, what));
        }
        for (int e : new int[] {-2, 1, 10, LEAST, GREATEST}) {
            due("18 no epoch " + e, BAD, x.order(e, 0));
        }
        for (int what : new int[] {-1, 5, LEAST, GREATEST}) {
            due("18 what " + what, BAD, x.order(-1, what));
        }
    }

    private static void orderWithClosedStreams() {
        StreamMultiplexer x = new StreamMultiplexer();
        addEdges(x, "01", "12", "02", "34");
        int[] none = {0, 0, 0, 0, 1};
        for (int what = 0; what <= 4; what++) {
            due("18 none open " + what, none[what], x.order(-1, what));
        }
        x.edge(0, 2, 0);
        x.open(0, 1);
        x.open(2, 1);
        x.open(4, 1);
        // 0 precedes 2 through the closed 1; of 3 and 4 only 4 counts.
        int[] some = {1, 2, 2, 2, 0};
        for (int what = 0; what <= 4; what++) {
            due("18 some open " + what, some[what], x.order(-1, what));
        }
    }

    private static void orderOfEpochs() {
        StreamMultiplexer x = opened(0, 1, 2);
        addEdges(x, "01");
        x.commit();
        addEdges(x, "12");
        due("18 epoch 0", 0, x.order(0, 0));
        due("18 epoch 1", 1, x.order(1, 0));
        due("18 draft", 3, x.order(-1, 0));
        due("18 epoch 1", 2, x.order(1, 1));
        due("18 epoch 1", 2, x.order(1, 2));
        due("18 epoch 1", 2, x.order(1, 3));
        // Widest across the layers: 0 before 1, 2 and 3 before 4 leave 1, 2 and 3.
        StreamMultiplexer y = opened(0, 1, 2, 3, 4);
        addEdges(y, "01", "24", "34");
        due("18 widest", 3, y.order(-1, 2));
        due("18 longest", 2, y.order(-1, 1));
        // Of 2 0, 0 1 and 2 1 the last one is not needed, and then 3 0 for 3 2 0.
        StreamMultiplexer z = new StreamMultiplexer();
        addEdges(z, "20", "01", "21");
        due("18 needless over 0", 1, z.order(-1, 4));
        addEdges(z, "32", "30");
        due("18 needless to 0", 2, z.order(-1, 4));
    }

    private static void lists() {
        StreamMultiplexer x = allOpened();
        due("19 all", 40320, x.lists(-1));
        due("19 all", 40320, x.lists(0));
        addEdges(x, "70");
        due("19 half", 20160, x.lists(-1));
        due("19 of the epoch", 40320, x.lists(0));
        addEdges(x, "61", "52", "43");
        due("19 pairs", 2520, x.lists(-1));
        for (int e : new int[] {-2, 1, 10, LEAST, GREATEST}) {
            due("19 no epoch " + e, BAD, x.lists(e));
        }
        x.close(0);
        due("19 without 0", 630, x.lists(-1));

        StreamMultiplexer y = opened(0, 2);
        addEdges(y, "01", "12");
        due("19 through a closed one", 1, y.lists(-1));
        due("19 free", 2, y.lists(0));
        y.open(7, 1);
        due("19 one more", 3, y.lists(-1));
    }

    private static void keep() {
        StreamMultiplexer x = opened(0, 1);
        due("20 none waiting", 0, x.keep(0));
        x.push(0, 1);
        x.push(1, 1);
        due("20 two waiting", 2, x.keep(1));
        due("20 no change", 4, x.told(10));
        due("20 first image", 0, x.back(0));
        due("20 second image", 2, x.back(1));
        x.push(0, 1);
        due("20 replaces", 3, x.keep(0));
        x.sendSome(999);
        due("20 replaced", 3, x.back(0));
        for (int i : new int[] {-1, 2, LEAST, GREATEST}) {
            due("20 no image " + i, BAD, x.keep(i));
        }
        StreamMultiplexer y = opened(0);
        y.keep(0);
        y.undo();
        due("20 the image is not undone", 0, y.back(0));
        due("20 open again", 1, y.told(0));
    }

    private static void back() {
        StreamMultiplexer x = opened(0, 1);
        due("21 nothing kept", STATE, x.back(0));
        x.push(0, 10);
        x.push(1, 20);
        addEdges(x, "01");
        x.commit();
        x.send();
        x.keep(0);
        due("21 other image", STATE, x.back(1));
        x.send();
        x.close(0);
        x.edge(0, 1, 0);
        x.commit();
        x.setWeight(1, 5);
        due("21 waiting", 1, x.back(0));
        int[] due = {2, 1, 2, 1, 20, 1, 1, 1, 1, 1, 8, 1};
        for (int what = 0; what < due.length; what++) {
            due("21 told " + what, due[what], x.told(what));
        }
        due("21 weight", 1, x.stream(1, 1));
        due("21 amount", 10, x.stream(0, 2));
        due("21 epoch gone", BAD, x.relation(2, 0, 1));
        x.send();
        due("21 the image stays", 1, x.back(0));
        for (int i : new int[] {-1, 2, LEAST, GREATEST}) {
            due("21 no image " + i, BAD, x.back(i));
        }
    }

    private static void backIsAChange() {
        StreamMultiplexer x = opened(0);
        x.keep(1);
        x.open(1, 1);
        x.open(2, 1);
        due("21 recorded", 0, x.back(1));
        due("21 behind the others", 4, x.told(10));
        due("21 one open", 1, x.told(0));
        due("21 undo", 3, x.undo());
        due("21 three open", 3, x.told(0));
        due("21 undo", 2, x.undo());
        due("21 two open", 2, x.told(0));
    }

    /** What they answer is free, but no call may throw or fail to end. */
    private static void callsAfterTheLast() {
        StreamMultiplexer x = allOpened();
        int i = 0;
        for (; i < 100_000; i++) {
            x.push(i % 8, 1 + i % 99);
            x.edge(i % 7, i * 5 % 8, i % 2);
            x.sendSome(i % 1000);
            if (i % 100 == 0) {
                x.commit();
                x.keep(i % 3);
                x.back(i % 7 % 2);
                x.stream(i % 8, 7);
                x.undo();
                x.lists(-1);
            }
        }
        due("calls went on", 100_000, i);
    }
}
