import java.util.ArrayList;
import java.util.Arrays;
import java.util.Comparator;
import java.util.List;

/**
 * The document written a second time, in the slowest and plainest way, to be
 * compared with the program: walks are searched edge by edge, lists are laid out
 * one by one, and every state is a whole copy.
 */
final class Model {
    private static final int BAD = -1;
    private static final int STATE = -2;
    private static final int FULL = -3;
    private static final int CYCLE = -4;
    private static final int NONE = -9;

    private record Frame(int number, int stream, int size, int epoch) {
    }

    private static final class State {
        boolean[] open = new boolean[8];
        int[] weight = {1, 1, 1, 1, 1, 1, 1, 1};
        int[] amount = new int[8];
        boolean[][] draft = new boolean[8][8];
        List<boolean[][]> epochs = new ArrayList<>(List.<boolean[][]>of(new boolean[8][8]));
        List<Frame> waiting = new ArrayList<>();
        List<Frame> sent = new ArrayList<>();
        int came;

        State copy() {
            State c = new State();
            c.open = open.clone();
            c.weight = weight.clone();
            c.amount = amount.clone();
            c.draft = copyOf(draft);
            c.epochs = new ArrayList<>(epochs);
            c.waiting = new ArrayList<>(waiting);
            c.sent = new ArrayList<>(sent);
            c.came = came;
            return c;
        }
    }

    private State now = new State();
    private final List<State> history = new ArrayList<>();
    private final State[] images = new State[2];

    // ---- changes

    int open(int s, int weight) {
        if (!in(s, 0, 7) || !in(weight, 1, 9)) return BAD;
        if (now.open[s]) return STATE;
        record();
        now.open[s] = true;
        now.weight[s] = weight;
        now.amount[s] = 0;
        return openStreams().size();
    }

    int close(int s) {
        if (!in(s, 0, 7)) return BAD;
        if (!now.open[s] || !queue(now, s).isEmpty()) return STATE;
        record();
        now.open[s] = false;
        return now.amount[s];
    }

    int setWeight(int s, int weight) {
        if (!in(s, 0, 7) || !in(weight, 1, 9)) return BAD;
        if (!now.open[s]) return STATE;
        record();
        int previous = now.weight[s];
        now.weight[s] = weight;
        return previous;
    }

    int push(int s, int size) {
        if (!in(s, 0, 7) || !in(size, 1, 99)) return BAD;
        if (!now.open[s]) return STATE;
        if (queue(now, s).size() == 6) return FULL;
        record();
        now.waiting.add(new Frame(now.came, s, size, now.epochs.size() - 1));
        return now.came++;
    }

    int edge(int a, int b, int on) {
        if (!in(a, 0, 7) || !in(b, 0, 7) || a == b || !in(on, 0, 1)) return BAD;
        if (on == 1 && walks(now.draft, b, a)) return CYCLE;
        record();
        boolean was = now.draft[a][b];
        now.draft[a][b] = on == 1;
        return was ? 1 : 0;
    }

    int commit() {
        if (now.epochs.size() == 10) return FULL;
        record();
        now.epochs.add(copyOf(now.draft));
        return now.epochs.size() - 1;
    }

    int revert(int epoch) {
        if (!in(epoch, 0, now.epochs.size() - 1)) return BAD;
        record();
        now.draft = copyOf(now.epochs.get(epoch));
        return edges(now.draft);
    }

    int send() {
        if (now.waiting.isEmpty()) return STATE;
        record();
        return sendNext(now).number();
    }

    int sendSome(int budget) {
        if (!in(budget, 0, 999)) return BAD;
        record();
        int sum = 0;
        int count = 0;
        while (!now.waiting.isEmpty() && sum + next(now).size() <= budget) {
            sum += sendNext(now).size();
            count++;
        }
        return count;
    }

    int undo() {
        if (history.isEmpty()) return STATE;
        now = history.remove(history.size() - 1);
        return history.size();
    }

    int keep(int i) {
        if (!in(i, 0, 1)) return BAD;
        images[i] = now.copy();
        return now.waiting.size();
    }

    int back(int i) {
        if (!in(i, 0, 1)) return BAD;
        if (images[i] == null) return STATE;
        record();
        now = images[i].copy();
        return now.waiting.size();
    }

    // ---- what is told

    int witness(int a, int b, int k) {
        if (!in(a, 0, 7) || !in(b, 0, 7) || a == b || k < -1) return BAD;
        List<List<Integer>> found = new ArrayList<>();
        collectWalks(now.draft, new ArrayList<>(List.of(b)), a, found);
        if (found.isEmpty()) return NONE;
        // Streams have one digit, so that lists of one length are compared as texts.
        List<Integer> best = found.stream()
                .min(Comparator.comparing((List<Integer> w) -> w.size()).thenComparing(Object::toString)).get();
        if (k == -1) return best.size() - 1;
        return k < best.size() ? best.get(k) : NONE;
    }

    int told(int what) {
        switch (what) {
            case 0: return openStreams().size();
            case 1: return now.waiting.size();
            case 2: return now.came;
            case 3: return now.sent.size();
            case 4: return now.waiting.stream().mapToInt(Frame::size).sum();
            case 5: return now.epochs.size() - 1;
            case 6: return edges(now.draft);
            case 7: return candidates(now).size();
            case 8: return now.waiting.isEmpty() ? NONE : next(now).stream();
            case 9: return Math.min(40, now.sent.size());
            case 10: return history.size();
            case 11: return Arrays.deepEquals(now.draft, now.epochs.get(now.epochs.size() - 1)) ? 1 : 0;
            default: return BAD;
        }
    }

    int stream(int s, int what) {
        if (!in(s, 0, 7) || !in(what, 0, 7)) return BAD;
        List<Frame> queue = queue(now, s);
        if (what >= 5 && queue.isEmpty()) return NONE;
        if (what <= 4 && !now.open[s]) return 0;
        switch (what) {
            case 0: return 1;
            case 1: return now.weight[s];
            case 2: return now.amount[s];
            case 3: return queue.size();
            case 4: return queue.stream().mapToInt(Frame::size).sum();
            case 5: return candidates(now).contains(queue.get(0)) ? 1 : 0;
            case 6: return blockers(now, queue.get(0));
            default: return before(queue.get(0));
        }
    }

    int frame(int s, int k, int what) {
        if (!in(s, 0, 7) || k < 0 || !in(what, 0, 3)) return BAD;
        List<Frame> queue = queue(now, s);
        if (k >= queue.size()) return NONE;
        Frame f = queue.get(k);
        return new int[] {f.number(), f.size(), f.epoch(), before(f)}[what];
    }

    int log(int k, int what) {
        List<Frame> log = now.sent.subList(Math.max(0, now.sent.size() - 40), now.sent.size());
        if (!in(k, 0, log.size() - 1) || !in(what, 0, 3)) return BAD;
        Frame f = log.get(k);
        return new int[] {f.number(), f.stream(), f.size(), f.epoch()}[what];
    }

    int relation(int epoch, int a, int b) {
        if (!in(epoch, -1, now.epochs.size() - 1) || !in(a, 0, 7) || !in(b, 0, 7) || a == b) return BAD;
        boolean[][] order = order(epoch);
        if (order[a][b]) return 1;
        if (walks(order, a, b)) return 2;
        if (order[b][a]) return 3;
        return walks(order, b, a) ? 4 : 0;
    }

    int order(int epoch, int what) {
        if (!in(epoch, -1, now.epochs.size() - 1) || !in(what, 0, 4)) return BAD;
        boolean[][] order = order(epoch);
        List<Integer> open = openStreams();
        switch (what) {
            case 0: return (int) open.stream().mapToLong(a -> open.stream().filter(b -> walks(order, a, b)).count()).sum();
            case 1: return open.stream().mapToInt(a -> chainFrom(order, open, a)).max().orElse(0);
            case 2: return widest(order, open, new ArrayList<>(), 0);
            case 3: return (int) open.stream().filter(b -> open.stream().noneMatch(a -> walks(order, a, b))).count();
            default: return needless(order);
        }
    }

    long lists(int epoch) {
        if (!in(epoch, -1, now.epochs.size() - 1)) return BAD;
        return layOut(order(epoch), openStreams());
    }

    // ---- sending

    private static List<Frame> queue(State state, int s) {
        return state.waiting.stream().filter(f -> f.stream() == s).toList();
    }

    private static int blockers(State state, Frame f) {
        boolean[][] order = state.epochs.get(f.epoch());
        return (int) state.waiting.stream().filter(g -> g.stream() != f.stream() && g.epoch() <= f.epoch()
                && walks(order, g.stream(), f.stream())).count();
    }

    private static List<Frame> candidates(State state) {
        List<Frame> found = new ArrayList<>();
        for (int s = 0; s < 8; s++) {
            List<Frame> queue = queue(state, s);
            if (!queue.isEmpty() && blockers(state, queue.get(0)) == 0) found.add(queue.get(0));
        }
        return found;
    }

    private static Frame next(State state) {
        Frame best = null;
        for (Frame f : candidates(state)) {
            if (best == null || state.amount[f.stream()] * state.weight[best.stream()]
                    < state.amount[best.stream()] * state.weight[f.stream()]) {
                best = f;
            }
        }
        return best;
    }

    private static Frame sendNext(State state) {
        Frame f = next(state);
        state.waiting.remove(f);
        state.sent.add(f);
        state.amount[f.stream()] += f.size();
        return f;
    }

    private int before(Frame f) {
        State ahead = now.copy();
        int count = 0;
        while (!sendNext(ahead).equals(f)) count++;
        return count;
    }

    // ---- orders

    private boolean[][] order(int epoch) {
        return epoch == -1 ? now.draft : now.epochs.get(epoch);
    }

    private static boolean walks(boolean[][] order, int a, int b) {
        for (int c = 0; c < 8; c++) {
            if (order[a][c] && (c == b || walks(order, c, b))) return true;
        }
        return false;
    }

    private static void collectWalks(boolean[][] order, List<Integer> walk, int to, List<List<Integer>> found) {
        int last = walk.get(walk.size() - 1);
        if (last == to) {
            found.add(new ArrayList<>(walk));
            return;
        }
        for (int c = 0; c < 8; c++) {
            if (order[last][c]) {
                walk.add(c);
                collectWalks(order, walk, to, found);
                walk.remove(walk.size() - 1);
            }
        }
    }

    private static int edges(boolean[][] order) {
        int count = 0;
        for (boolean[] row : order) {
            for (boolean edge : row) {
                if (edge) count++;
            }
        }
        return count;
    }

    private static int chainFrom(boolean[][] order, List<Integer> open, int a) {
        return 1 + open.stream().filter(b -> walks(order, a, b))
                .mapToInt(b -> chainFrom(order, open, b)).max().orElse(0);
    }

    private static int widest(boolean[][] order, List<Integer> open, List<Integer> chosen, int from) {
        int best = chosen.size();
        for (int i = from; i < open.size(); i++) {
            int s = open.get(i);
            if (chosen.stream().noneMatch(c -> walks(order, c, s) || walks(order, s, c))) {
                chosen.add(s);
                best = Math.max(best, widest(order, open, chosen, i + 1));
                chosen.remove(chosen.size() - 1);
            }
        }
        return best;
    }

    private static int needless(boolean[][] order) {
        int count = 0;
        for (int a = 0; a < 8; a++) {
            for (int b = 0; b < 8; b++) {
                if (order[a][b]) {
                    boolean[][] without = copyOf(order);
                    without[a][b] = false;
                    if (walks(without, a, b)) count++;
                }
            }
        }
        return count;
    }

    private static long layOut(boolean[][] order, List<Integer> left) {
        if (left.isEmpty()) return 1;
        long count = 0;
        for (int s : left) {
            if (left.stream().noneMatch(a -> walks(order, a, s))) {
                List<Integer> rest = new ArrayList<>(left);
                rest.remove(Integer.valueOf(s));
                count += layOut(order, rest);
            }
        }
        return count;
    }

    // ---- helpers

    private List<Integer> openStreams() {
        List<Integer> open = new ArrayList<>();
        for (int s = 0; s < 8; s++) {
            if (now.open[s]) open.add(s);
        }
        return open;
    }

    private void record() {
        history.add(now.copy());
        if (history.size() > 8) history.remove(0);
    }

    private static boolean in(int value, int least, int greatest) {
        return value >= least && value <= greatest;
    }

    private static boolean[][] copyOf(boolean[][] rows) {
        boolean[][] copy = new boolean[rows.length][];
        for (int i = 0; i < rows.length; i++) copy[i] = rows[i].clone();
        return copy;
    }
}
