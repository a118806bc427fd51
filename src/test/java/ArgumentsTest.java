import java.util.ArrayList;
import java.util.Arrays;
import java.util.List;

/**
 * Each method with every choice of arguments at and beside the edges of their ranges, in
 * states at the edges of what is kept; each answer compared with that of the model.
 */
public final class ArgumentsTest {
    private static final int LEAST = Integer.MIN_VALUE;
    private static final int GREATEST = Integer.MAX_VALUE;

    private static final int[] STREAMS = {LEAST, -1, 0, 1, 3, 7, 8, GREATEST};
    private static final int[] WEIGHTS = {LEAST, -1, 0, 1, 2, 8, 9, 10, GREATEST};
    private static final int[] SIZES = {LEAST, -1, 0, 1, 2, 98, 99, 100, GREATEST};
    private static final int[] ON = {LEAST, -1, 0, 1, 2, GREATEST};
    private static final int[] EPOCHS = {LEAST, -2, -1, 0, 1, 2, 3, 4, 8, 9, 10, 11, GREATEST};
    private static final int[] WALK = {LEAST, -2, -1, 0, 1, 2, 3, 6, 7, 8, GREATEST};
    private static final int[] BUDGETS = {LEAST, -1, 0, 1, 98, 99, 100, 197, 198, 199, 998, 999, 1000, GREATEST};
    private static final int[] QUEUE = {LEAST, -1, 0, 1, 2, 4, 5, 6, 7, GREATEST};
    private static final int[] ENTRIES = {LEAST, -1, 0, 1, 2, 38, 39, 40, 41, GREATEST};
    private static final int[] WHAT = {LEAST, -1, 0, 1, 2, 3, 4, 5, 6, 7, 8, 9, 10, 11, 12, GREATEST};
    private static final int[] IMAGES = {LEAST, -1, 0, 1, 2, GREATEST};

    private static final String[] STATES = {"new", "few", "closed", "full", "logged", "sent", "undone"};
    /** With the calls that make the state, an object is asked less than its 512 calls. */
    private static final int QUESTIONS = 250;

    public static void main(String[] args) {
        for (String state : STATES) {
            checkChanges(state);
            checkQuestions(state);
        }
        Check.finish();
    }

    // ---- states

    private static Pair made(String state) {
        Pair p = new Pair();
        switch (state) {
            case "few" -> makeFew(p);
            case "closed" -> makeClosed(p);
            case "full" -> makeFull(p);
            case "logged" -> makeLogged(p, 7);
            case "sent" -> makeSent(p);
            case "undone" -> makeUndone(p);
            default -> { }
        }
        return p;
    }

    private static void call(Pair p, String method, int... arguments) {
        p.call("made", method, arguments);
    }

    private static void openAll(Pair p) {
        for (int s = 0; s < 8; s++) {
            call(p, "open", s, 9 - s);
        }
    }

    private static void makeFew(Pair p) {
        call(p, "open", 0, 1);
        call(p, "open", 7, 9);
        call(p, "edge", 7, 3, 1);
        call(p, "edge", 3, 0, 1);
        call(p, "commit");
        call(p, "push", 0, 99);
        call(p, "keep", 1);
        call(p, "push", 7, 1);
    }

    private static void makeClosed(Pair p) {
        for (int s = 0; s < 7; s++) {
            call(p, "edge", s, s + 1, 1);
        }
        call(p, "edge", 0, 7, 1);
        call(p, "commit");
        call(p, "edge", 3, 4, 0);
        call(p, "keep", 0);
    }

    private static void makeFull(Pair p) {
        openAll(p);
        for (int s = 7; s > 0; s--) {
            call(p, "edge", s, s - 1, 1);
            call(p, "commit");
        }
        call(p, "commit");
        for (int i = 0; i < 48; i++) {
            if (i == 30) {
                call(p, "commit");
            }
            call(p, "push", i % 8, 99);
        }
        call(p, "keep", 0);
        call(p, "keep", 1);
    }

    private static void makeLogged(Pair p, int rounds) {
        openAll(p);
        call(p, "edge", 7, 0, 1);
        call(p, "commit");
        for (int round = 0; round < rounds; round++) {
            for (int i = 0; i < 6; i++) {
                call(p, "push", i * (round + 1) % 8, 1 + 33 * i % 99);
            }
            call(p, "sendSome", round + 1 < rounds ? 999 : 100);
        }
    }

    private static void makeSent(Pair p) {
        makeLogged(p, 4);
        call(p, "sendSome", 999);
        for (int s = 0; s < 8; s += 2) {
            call(p, "close", s);
        }
        call(p, "keep", 1);
    }

    private static void makeUndone(Pair p) {
        makeFull(p);
        for (int i = 0; i < 8; i++) {
            call(p, "undo");
        }
    }

    // ---- calls

    private static void checkChanges(String state) {
        for (int[] c : choices(STREAMS, WEIGHTS)) {
            checkChange(state, "open", c);
            checkChange(state, "setWeight", c);
        }
        for (int[] c : choices(STREAMS, SIZES)) {
            checkChange(state, "push", c);
        }
        for (int[] c : choices(STREAMS, STREAMS, ON)) {
            checkChange(state, "edge", c);
        }
        for (int s : STREAMS) {
            checkChange(state, "close", s);
        }
        for (int epoch : EPOCHS) {
            checkChange(state, "revert", epoch);
        }
        for (int budget : BUDGETS) {
            checkChange(state, "sendSome", budget);
        }
        for (int i : IMAGES) {
            checkChange(state, "keep", i);
            checkChange(state, "back", i);
        }
        for (String method : new String[] {"commit", "send", "undo"}) {
            checkChange(state, method);
        }
    }

    /** One call on an object of its own, and what is told then, and when it is undone. */
    private static void checkChange(String state, String method, int... arguments) {
        Pair p = made(state);
        p.call(state, method, arguments);
        String where = state + ", after " + method + " " + Arrays.toString(arguments);
        checkTold(p, where);
        p.call(where, "undo");
        checkTold(p, where + ", undone");
        for (int i = 0; i <= 1; i++) {
            p.call(where, "back", i);
            checkTold(p, where + ", back " + i);
        }
    }

    private static void checkTold(Pair p, String where) {
        for (int what = 0; what <= 11; what++) {
            p.call(where, "told", what);
        }
        for (int s = 0; s < 8; s++) {
            p.call(where, "stream", s, 1);
            p.call(where, "stream", s, 2);
            p.call(where, "frame", s, 0, 0);
        }
        p.call(where, "order", -1, 2);
        p.call(where, "log", 39, 0);
    }

    private static void checkQuestions(String state) {
        checkQuestion(state, "witness", choices(STREAMS, STREAMS, WALK));
        checkQuestion(state, "told", choices(WHAT));
        checkQuestion(state, "stream", choices(STREAMS, WHAT));
        checkQuestion(state, "frame", choices(STREAMS, QUEUE, WHAT));
        checkQuestion(state, "log", choices(ENTRIES, WHAT));
        checkQuestion(state, "relation", choices(EPOCHS, STREAMS, STREAMS));
        checkQuestion(state, "order", choices(EPOCHS, WHAT));
        checkQuestion(state, "lists", choices(EPOCHS));
    }

    private static void checkQuestion(String state, String method, List<int[]> choices) {
        Pair p = null;
        for (int i = 0; i < choices.size(); i++) {
            if (i % QUESTIONS == 0) {
                p = made(state);
            }
            p.call(state, method, choices.get(i));
        }
    }

    /** Every choice of one number of each row. */
    private static List<int[]> choices(int[]... rows) {
        List<int[]> found = new ArrayList<>();
        found.add(new int[0]);
        for (int[] row : rows) {
            List<int[]> longer = new ArrayList<>();
            for (int[] start : found) {
                for (int number : row) {
                    int[] choice = Arrays.copyOf(start, start.length + 1);
                    choice[start.length] = number;
                    longer.add(choice);
                }
            }
            found = longer;
        }
        return found;
    }
}
