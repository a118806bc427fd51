/** Long runs of calls, each answer compared with that of the model; the runs are always the same. */
public final class ModelTest {
    private static final int RUNS = 600;
    private static final int CALLS = 512;
    private static final int[] EXTREMES = {Integer.MIN_VALUE, -2, -1, 0, 8, 10, 48, 100, 1000, Integer.MAX_VALUE};

    private static final String[] METHODS = {
        "open", "close", "setWeight", "push", "edge", "commit", "revert", "witness", "send", "sendSome",
        "undo", "told", "stream", "frame", "log", "relation", "order", "lists", "keep", "back"
    };
    /** How often each method is called; a run has one of these moods. */
    private static final int[][] MOODS = {
        {4, 1, 3, 24, 10, 3, 1, 3, 8, 2, 1, 6, 10, 10, 3, 3, 4, 1, 1, 1},
        {3, 1, 2, 30, 3, 2, 0, 1, 20, 2, 1, 6, 9, 8, 9, 1, 1, 1, 1, 1},
        {4, 2, 1, 3, 30, 3, 2, 14, 1, 0, 2, 4, 3, 2, 1, 12, 14, 1, 1, 1},
        {5, 4, 4, 12, 8, 4, 3, 1, 6, 5, 14, 9, 9, 6, 5, 2, 3, 1, 6, 6},
    };

    private static long seed = 1;

    public static void main(String[] args) {
        for (int run = 0; run < RUNS; run++) {
            Pair pair = new Pair();
            int[] mood = MOODS[run % MOODS.length];
            for (int i = 0; i < CALLS; i++) {
                String method = chooseMethod(mood);
                pair.call("run " + run + ", call " + i, method, argumentsOf(method, pair.currentEpoch()));
            }
        }
        Check.finish();
    }

    private static int below(int bound) {
        seed = seed * 6364136223846793005L + 1442695040888963407L;
        return (int) ((seed >>> 33) % bound);
    }

    private static String chooseMethod(int[] mood) {
        int sum = 0;
        for (int often : mood) {
            sum += often;
        }
        int choice = below(sum);
        int method = 0;
        while (choice >= mood[method]) {
            choice -= mood[method++];
        }
        return METHODS[method];
    }

    /** A number of a range, or now and then one that may be outside. */
    private static int number(int least, int greatest) {
        return below(40) == 0 ? EXTREMES[below(EXTREMES.length)] : least + below(greatest - least + 1);
    }

    private static int stream() {
        return number(0, 7);
    }

    private static int epoch(int current) {
        return below(4) == 0 ? number(-1, 9) : number(-1, current);
    }

    private static int[] argumentsOf(String method, int current) {
        return switch (method) {
            case "open", "setWeight" -> new int[] {stream(), number(1, 9)};
            case "close" -> new int[] {stream()};
            case "push" -> new int[] {stream(), number(1, below(2) == 0 ? 99 : 6)};
            case "edge" -> new int[] {stream(), stream(), below(4) == 0 ? number(0, 1) : 1};
            case "revert", "lists" -> new int[] {epoch(current)};
            case "witness" -> new int[] {stream(), stream(), number(-1, 4)};
            case "sendSome" -> new int[] {number(0, below(2) == 0 ? 999 : 60)};
            case "told" -> new int[] {number(0, 11)};
            case "stream" -> new int[] {stream(), number(0, 7)};
            case "frame" -> new int[] {stream(), number(0, 6), number(0, 3)};
            case "log" -> new int[] {number(0, below(2) == 0 ? 39 : 6), number(0, 3)};
            case "relation" -> new int[] {epoch(current), stream(), stream()};
            case "order" -> new int[] {epoch(current), number(0, 4)};
            case "keep", "back" -> new int[] {number(0, 1)};
            default -> new int[0];
        };
    }
}
