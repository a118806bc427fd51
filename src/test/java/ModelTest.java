/** Long runs of calls, each answer compared with that of the model; the runs are always the same. */
public final class ModelTest {
    private static final int RUNS = 300;
    private static final int CALLS = 512;
    private static final int[] EXTREMES = {Integer.MIN_VALUE, -2, -1, 0, 8, 10, 48, 100, 1000, Integer.MAX_VALUE};

    /** How often each method is called, in the order of callOne; a run has one of these moods. */
    private static final int[][] MOODS = {
        // open close weight push edge commit revert witness send some undo told stream frame log relation order lists keep back
        {4, 1, 3, 24, 10, 3, 1, 3, 8, 2, 1, 6, 10, 10, 3, 3, 4, 1, 1, 1},
        {3, 1, 2, 30, 3, 2, 0, 1, 20, 2, 1, 6, 9, 8, 9, 1, 1, 1, 1, 1},
        {4, 2, 1, 3, 30, 3, 2, 14, 1, 0, 2, 4, 3, 2, 1, 12, 14, 1, 1, 1},
        {5, 4, 4, 12, 8, 4, 3, 1, 6, 5, 14, 9, 9, 6, 5, 2, 3, 1, 6, 6},
    };

    private static long seed = 1;
    private static StreamMultiplexer program;
    private static Model model;
    private static String where;

    public static void main(String[] args) {
        for (int run = 0; run < RUNS; run++) {
            program = new StreamMultiplexer();
            model = new Model();
            int[] mood = MOODS[run % MOODS.length];
            for (int i = 0; i < CALLS; i++) {
                where = "run " + run + ", call " + i + ": ";
                callOne(chooseMethod(mood));
            }
        }
        Check.finish();
    }

    private static int below(int bound) {
        seed = seed * 6364136223846793005L + 1442695040888963407L;
        return (int) ((seed >>> 33) % bound);
    }

    private static int chooseMethod(int[] mood) {
        int sum = 0;
        for (int often : mood) sum += often;
        int choice = below(sum);
        int method = 0;
        while (choice >= mood[method]) choice -= mood[method++];
        return method;
    }

    /** A number of a range, or now and then one that may be outside. */
    private static int number(int least, int greatest) {
        return below(40) == 0 ? EXTREMES[below(EXTREMES.length)] : least + below(greatest - least + 1);
    }

    private static int streamNumber() {
        return number(0, 7);
    }

    private static int epoch() {
        int current = model.told(5);
        return below(4) == 0 ? number(-1, 9) : number(-1, current);
    }

    private static void due(String method, long want, long got, int... arguments) {
        StringBuilder call = new StringBuilder(where).append(method);
        for (int a : arguments) call.append(' ').append(a);
        Check.due(call.toString(), want, got);
    }

    private static void callOne(int method) {
        if (method < 12) {
            callEarly(method);
        } else {
            callLate(method);
        }
    }

    private static void callEarly(int method) {
        int s = streamNumber();
        int t = streamNumber();
        int weight = number(1, 9);
        int size = number(1, below(2) == 0 ? 99 : 6);
        int on = below(4) == 0 ? number(0, 1) : 1;
        int epoch = epoch();
        int k = number(-1, 4);
        int budget = number(0, below(2) == 0 ? 999 : 60);
        int what = number(0, 11);
        switch (method) {
            case 0 -> due("open", model.open(s, weight), program.open(s, weight), s, weight);
            case 1 -> due("close", model.close(s), program.close(s), s);
            case 2 -> due("setWeight", model.setWeight(s, weight), program.setWeight(s, weight), s, weight);
            case 3 -> due("push", model.push(s, size), program.push(s, size), s, size);
            case 4 -> due("edge", model.edge(s, t, on), program.edge(s, t, on), s, t, on);
            case 5 -> due("commit", model.commit(), program.commit());
            case 6 -> due("revert", model.revert(epoch), program.revert(epoch), epoch);
            case 7 -> due("witness", model.witness(s, t, k), program.witness(s, t, k), s, t, k);
            case 8 -> due("send", model.send(), program.send());
            case 9 -> due("sendSome", model.sendSome(budget), program.sendSome(budget), budget);
            case 10 -> due("undo", model.undo(), program.undo());
            default -> due("told", model.told(what), program.told(what), what);
        }
    }

    private static void callLate(int method) {
        int s = streamNumber();
        int t = streamNumber();
        int k = number(0, 6);
        int entry = number(0, below(2) == 0 ? 39 : 6);
        int what = number(0, 3);
        int streamWhat = number(0, 7);
        int orderWhat = number(0, 4);
        int epoch = epoch();
        int image = number(0, 1);
        switch (method) {
            case 12 -> due("stream", model.stream(s, streamWhat), program.stream(s, streamWhat), s, streamWhat);
            case 13 -> due("frame", model.frame(s, k, what), program.frame(s, k, what), s, k, what);
            case 14 -> due("log", model.log(entry, what), program.log(entry, what), entry, what);
            case 15 -> due("relation", model.relation(epoch, s, t), program.relation(epoch, s, t), epoch, s, t);
            case 16 -> due("order", model.order(epoch, orderWhat), program.order(epoch, orderWhat), epoch, orderWhat);
            case 17 -> due("lists", model.lists(epoch), program.lists(epoch), epoch);
            case 18 -> due("keep", model.keep(image), program.keep(image), image);
            default -> due("back", model.back(image), program.back(image), image);
        }
    }
}
