import java.util.ArrayList;
import java.util.List;
import java.util.function.Supplier;
import java.util.function.ToLongFunction;

/**
 * All that an object answers, with what its images keep and what can be undone. An
 * object's 512 calls do not suffice to ask it all, so that the object is made anew
 * for each group of questions; it must come out of the same calls each time.
 */
final class Picture {
    private static final int GROUP = 200;
    private static final int MOST_UNDONE = 8;

    private record Question(String text, ToLongFunction<StreamMultiplexer> ask) {
    }

    private static final List<Question> QUESTIONS = questions();

    private Picture() {
    }

    /** Checks that two objects answer the same, now, after each undo, and as each image is taken back. */
    static void checkSame(String what, Supplier<StreamMultiplexer> wanted, Supplier<StreamMultiplexer> made) {
        checkSameNow(what, wanted, made);
        due(what + ": told 10", wanted, made, x -> x.told(10));
        for (int depth = 1; depth <= MOST_UNDONE; depth++) {
            int undone = depth;
            due(what + ", undo " + depth, wanted, made, x -> undoneTimes(x, undone));
            checkSameNow(what + ", undone " + depth, () -> undone(wanted, undone), () -> undone(made, undone));
        }
        for (int i = 0; i <= 1; i++) {
            int image = i;
            due(what + ", back " + i, wanted, made, x -> x.back(image));
            checkSameNow(what + ", image " + i, () -> taken(wanted, image), () -> taken(made, image));
        }
    }

    /** Checks that two objects answer the same, whatever their images keep and whatever can be undone. */
    static void checkSameNow(String what, Supplier<StreamMultiplexer> wanted, Supplier<StreamMultiplexer> made) {
        StreamMultiplexer x = null;
        StreamMultiplexer y = null;
        for (int q = 0; q < QUESTIONS.size(); q++) {
            if (q % GROUP == 0) {
                x = wanted.get();
                y = made.get();
            }
            Question question = QUESTIONS.get(q);
            Check.due(what + ": " + question.text, question.ask.applyAsLong(x), question.ask.applyAsLong(y));
        }
    }

    private static void due(String what, Supplier<StreamMultiplexer> wanted, Supplier<StreamMultiplexer> made,
            ToLongFunction<StreamMultiplexer> ask) {
        Check.due(what, ask.applyAsLong(wanted.get()), ask.applyAsLong(made.get()));
    }

    private static long undoneTimes(StreamMultiplexer x, int times) {
        long answer = 0;
        for (int i = 0; i < times; i++) {
            answer = x.undo();
        }
        return answer;
    }

    private static StreamMultiplexer undone(Supplier<StreamMultiplexer> made, int times) {
        StreamMultiplexer x = made.get();
        undoneTimes(x, times);
        return x;
    }

    private static StreamMultiplexer taken(Supplier<StreamMultiplexer> made, int image) {
        StreamMultiplexer x = made.get();
        x.back(image);
        return x;
    }

    private static List<Question> questions() {
        List<Question> all = new ArrayList<>();
        // told(10) is left out: it is not among what an image keeps.
        for (int what : new int[] {0, 1, 2, 3, 4, 5, 6, 7, 8, 9, 11}) {
            all.add(new Question("told " + what, x -> x.told(what)));
        }
        for (int s = 0; s < 8; s++) {
            addStream(all, s);
        }
        for (int k = 0; k < 40; k++) {
            for (int what = 0; what <= 3; what++) {
                int entry = k;
                int asked = what;
                all.add(new Question("log " + k + " " + what, x -> x.log(entry, asked)));
            }
        }
        for (int epoch = -1; epoch <= 9; epoch++) {
            addOrder(all, epoch);
        }
        return all;
    }

    private static void addStream(List<Question> all, int s) {
        for (int what = 0; what <= 7; what++) {
            int asked = what;
            all.add(new Question("stream " + s + " " + what, x -> x.stream(s, asked)));
        }
        for (int k = 0; k < 6; k++) {
            for (int what = 0; what <= 3; what++) {
                int index = k;
                int asked = what;
                all.add(new Question("frame " + s + " " + k + " " + what, x -> x.frame(s, index, asked)));
            }
        }
    }

    private static void addOrder(List<Question> all, int epoch) {
        for (int a = 0; a < 8; a++) {
            for (int b = 0; b < 8; b++) {
                int from = a;
                int to = b;
                all.add(new Question("relation " + epoch + " " + a + " " + b, x -> x.relation(epoch, from, to)));
            }
        }
        for (int what = 0; what <= 4; what++) {
            int asked = what;
            all.add(new Question("order " + epoch + " " + what, x -> x.order(epoch, asked)));
        }
        all.add(new Question("lists " + epoch, x -> x.lists(epoch)));
    }
}
