/** What the tests by hand share: the document's constants, and objects that have something in them. */
abstract class TestBase {
    static final int BAD = -1;
    static final int STATE = -2;
    static final int FULL = -3;
    static final int CYCLE = -4;
    static final int NONE = -9;

    static final int LEAST = Integer.MIN_VALUE;
    static final int GREATEST = Integer.MAX_VALUE;

    static void due(String call, long want, long got) {
        Check.due(call, want, got);
    }

    static StreamMultiplexer opened(int... streams) {
        StreamMultiplexer x = new StreamMultiplexer();
        for (int s : streams) {
            x.open(s, 1);
        }
        return x;
    }

    static StreamMultiplexer allOpened() {
        return opened(0, 1, 2, 3, 4, 5, 6, 7);
    }

    /** Adds edges, each written as its two streams: "01" leads from 0 to 1. */
    static void addEdges(StreamMultiplexer x, String... edges) {
        for (String e : edges) {
            due("edge " + e, 0, x.edge(e.charAt(0) - '0', e.charAt(1) - '0', 1));
        }
    }

    static void commitTo(StreamMultiplexer x, int epoch) {
        for (int e = x.told(5); e < epoch; e++) {
            due("commit", e + 1, x.commit());
        }
    }
}
