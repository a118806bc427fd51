/**
 * A multiplexer that sends the frames of several streams over one line, in an
 * order that can be edited while frames are waiting.
 *
 * <p>All rows are made in the constructor and used again: a call makes no object.
 */
public final class StreamMultiplexer {
    public static final int BAD = -1, STATE = -2, FULL = -3, CYCLE = -4, NONE = -9;

    private static final int STREAMS = 8;
    private static final int STREAM_SETS = 256;
    private static final int QUEUE_LENGTH = 6;
    private static final int MOST_WAITING = 48;
    private static final int EPOCHS = 10;
    private static final int LOG_LENGTH = 40;
    private static final int HISTORY_LENGTH = 8;
    private static final int IMAGES = 2;
    private static final int DRAFT = -1;

    private static final int GREATEST_WEIGHT = 9;
    private static final int GREATEST_SIZE = 99;
    private static final int GREATEST_BUDGET = 999;

    private static final int LAST_OF_TOLD = 11;
    private static final int LAST_OF_STREAM = 7;
    /** From this property of a stream on, all tell about its first waiting frame. */
    private static final int FIRST_OF_WAITING = 5;
    private static final int LAST_OF_FRAME = 3;
    private static final int LAST_OF_LOG = 3;
    private static final int LAST_OF_ORDER = 4;

    private State present;
    private final State forecast;
    private final State[] history;
    private int historyCount;
    private final State[] images;
    private final boolean[] kept;
    private final long[] listsOfSet;

    public StreamMultiplexer() {
        present = new State();
        forecast = new State();
        history = new State[HISTORY_LENGTH];
        for (int i = 0; i < HISTORY_LENGTH; i++) {
            history[i] = new State();
        }
        historyCount = 0;
        images = new State[IMAGES];
        for (int i = 0; i < IMAGES; i++) {
            images[i] = new State();
        }
        kept = new boolean[IMAGES];
        listsOfSet = new long[STREAM_SETS];
    }

    // ---- streams and frames

    public int open(int s, int weight) {
        if (!isStream(s) || !isWithin(weight, 1, GREATEST_WEIGHT)) {
            return BAD;
        }
        if (present.isOpen(s)) {
            return STATE;
        }
        record();
        present.openStream(s, weight);
        return Integer.bitCount(present.opened);
    }

    public int close(int s) {
        if (!isStream(s)) {
            return BAD;
        }
        if (!present.isOpen(s) || present.queues[s].count > 0) {
            return STATE;
        }
        record();
        present.closeStream(s);
        return present.amounts[s];
    }

    public int setWeight(int s, int weight) {
        if (!isStream(s) || !isWithin(weight, 1, GREATEST_WEIGHT)) {
            return BAD;
        }
        if (!present.isOpen(s)) {
            return STATE;
        }
        record();
        int previous = present.weights[s];
        present.weights[s] = weight;
        return previous;
    }

    public int push(int s, int size) {
        if (!isStream(s) || !isWithin(size, 1, GREATEST_SIZE)) {
            return BAD;
        }
        if (!present.isOpen(s)) {
            return STATE;
        }
        if (present.queues[s].isFull()) {
            return FULL;
        }
        record();
        return present.takeFrame(s, size);
    }

    // ---- the order

    public int edge(int a, int b, int on) {
        if (!areTwoStreams(a, b) || !isWithin(on, 0, 1)) {
            return BAD;
        }
        if (on == 1 && present.draft.precedes(b, a)) {
            return CYCLE;
        }
        record();
        int was = present.draft.hasEdge(a, b) ? 1 : 0;
        present.draft.putEdge(a, b, on == 1);
        return was;
    }

    public int commit() {
        if (present.epochCount >= EPOCHS) {
            return FULL;
        }
        record();
        present.beginEpoch();
        return present.currentEpoch();
    }

    public int revert(int epoch) {
        if (!isEpoch(epoch)) {
            return BAD;
        }
        record();
        present.draft.copyFrom(present.orderOf(epoch));
        return present.draft.edgeCount();
    }

    public int witness(int a, int b, int k) {
        if (!areTwoStreams(a, b) || k < -1) {
            return BAD;
        }
        int edges = present.draft.distance(b, a);
        if (edges == NONE) {
            return NONE;
        }
        if (k == -1) {
            return edges;
        }
        return k > edges ? NONE : present.draft.streamOfWalk(b, a, k);
    }

    // ---- sending

    public int send() {
        int s = present.nextStream();
        if (s == NONE) {
            return STATE;
        }
        record();
        int number = present.queues[s].numberAt(0);
        present.sendFirst(s);
        return number;
    }

    public int sendSome(int budget) {
        if (!isWithin(budget, 0, GREATEST_BUDGET)) {
            return BAD;
        }
        record();
        int left = budget;
        int count = 0;
        while (count < MOST_WAITING) {
            int s = present.nextStream();
            if (s == NONE || present.queues[s].sizeAt(0) > left) {
                break;
            }
            left -= present.queues[s].sizeAt(0);
            present.sendFirst(s);
            count++;
        }
        return count;
    }

    public int undo() {
        if (historyCount <= 0) {
            return STATE;
        }
        historyCount--;
        // The undone state's rows go back into the history, to be written over later.
        State undone = present;
        present = history[historyCount];
        history[historyCount] = undone;
        return historyCount;
    }

    // ---- what is told

    public int told(int what) {
        if (!isWithin(what, 0, LAST_OF_TOLD)) {
            return BAD;
        }
        switch (what) {
            case 0: return Integer.bitCount(present.opened);
            case 1: return present.waitingCount();
            case 2: return present.came;
            case 3: return present.sent;
            case 4: return present.waitingSize();
            case 5: return present.currentEpoch();
            case 6: return present.draft.edgeCount();
            case 7: return present.candidateCount();
            case 8: return present.nextStream();
            case 9: return present.sentFrames.count;
            case 10: return historyCount;
            default: return present.draft.hasSameEdges(present.orderOf(present.currentEpoch())) ? 1 : 0;
        }
    }

    public int stream(int s, int what) {
        if (!isStream(s) || !isWithin(what, 0, LAST_OF_STREAM)) {
            return BAD;
        }
        Frames queue = present.queues[s];
        if (what >= FIRST_OF_WAITING && queue.count == 0) {
            return NONE;
        }
        boolean isOpen = present.isOpen(s);
        switch (what) {
            case 0: return isOpen ? 1 : 0;
            case 1: return isOpen ? present.weights[s] : 0;
            case 2: return isOpen ? present.amounts[s] : 0;
            case 3: return queue.count;
            case 4: return queue.sizeOfAll();
            case 5: return present.isCandidate(s) ? 1 : 0;
            case 6: return present.blockersOfFirst(s);
            default: return sentBefore(s, 0);
        }
    }

    public int frame(int s, int k, int what) {
        if (!isStream(s) || k < 0 || !isWithin(what, 0, LAST_OF_FRAME)) {
            return BAD;
        }
        Frames queue = present.queues[s];
        if (k >= queue.count) {
            return NONE;
        }
        switch (what) {
            case 0: return queue.numberAt(k);
            case 1: return queue.sizeAt(k);
            case 2: return queue.epochAt(k);
            default: return sentBefore(s, k);
        }
    }

    public int log(int k, int what) {
        Frames entries = present.sentFrames;
        if (k < 0 || k >= entries.count || !isWithin(what, 0, LAST_OF_LOG)) {
            return BAD;
        }
        switch (what) {
            case 0: return entries.numberAt(k);
            case 1: return entries.streamAt(k);
            case 2: return entries.sizeAt(k);
            default: return entries.epochAt(k);
        }
    }

    // ---- what is told of orders

    public int relation(int epoch, int a, int b) {
        if (!isEpochOrDraft(epoch) || !areTwoStreams(a, b)) {
            return BAD;
        }
        Order asked = present.orderOf(epoch);
        if (asked.precedes(a, b)) {
            return asked.hasEdge(a, b) ? 1 : 2;
        }
        if (asked.precedes(b, a)) {
            return asked.hasEdge(b, a) ? 3 : 4;
        }
        return 0;
    }

    public int order(int epoch, int what) {
        if (!isEpochOrDraft(epoch) || !isWithin(what, 0, LAST_OF_ORDER)) {
            return BAD;
        }
        Order asked = present.orderOf(epoch);
        switch (what) {
            case 0: return asked.pairsAmong(present.opened);
            case 1: return asked.longestChainAmong(present.opened);
            case 2: return asked.widestChoiceAmong(present.opened);
            case 3: return Integer.bitCount(asked.firstOf(present.opened));
            default: return asked.needlessEdges();
        }
    }

    public long lists(int epoch) {
        if (!isEpochOrDraft(epoch)) {
            return BAD;
        }
        return present.orderOf(epoch).countLists(present.opened, listsOfSet);
    }

    // ---- images

    public int keep(int i) {
        if (!isWithin(i, 0, IMAGES - 1)) {
            return BAD;
        }
        images[i].copyFrom(present);
        kept[i] = true;
        return present.waitingCount();
    }

    public int back(int i) {
        if (!isWithin(i, 0, IMAGES - 1)) {
            return BAD;
        }
        if (!kept[i]) {
            return STATE;
        }
        record();
        present.copyFrom(images[i]);
        return present.waitingCount();
    }

    // ---- helpers

    private static boolean isWithin(int value, int least, int greatest) {
        return value >= least && value <= greatest;
    }

    private static boolean isStream(int s) {
        return s >= 0 && s < STREAMS;
    }

    private static boolean areTwoStreams(int a, int b) {
        return isStream(a) && isStream(b) && a != b;
    }

    private static int setOf(int s) {
        return 1 << s;
    }

    private static boolean isIn(int set, int s) {
        return (set & (1 << s)) != 0;
    }

    private boolean isEpoch(int epoch) {
        return epoch >= 0 && epoch < present.epochCount;
    }

    private boolean isEpochOrDraft(int epoch) {
        return epoch == DRAFT || isEpoch(epoch);
    }

    /** Records the present state in the history, before a change. */
    private void record() {
        if (historyCount >= HISTORY_LENGTH) {
            dropOldest();
        }
        history[historyCount].copyFrom(present);
        historyCount++;
    }

    private void dropOldest() {
        // The dropped state moves to the end, so that its rows are used again.
        State oldest = history[0];
        for (int i = 1; i < HISTORY_LENGTH; i++) {
            history[i - 1] = history[i];
        }
        history[HISTORY_LENGTH - 1] = oldest;
        historyCount = HISTORY_LENGTH - 1;
    }

    /** Counts the frames that will be sent before the frame k of a queue, by sending them in a copy. */
    private int sentBefore(int s, int k) {
        forecast.copyFrom(present);
        int ahead = k;
        for (int count = 0; count < MOST_WAITING; count++) {
            int next = forecast.nextStream();
            if (next == NONE) {
                return NONE;
            }
            if (next == s) {
                if (ahead == 0) {
                    return count;
                }
                ahead--;
            }
            forecast.sendFirst(next);
        }
        return NONE;
    }

    /** A row of frames up to a fixed number: the queue of a stream, or the log. */
    private static final class Frames {
        final int[] numbers;
        final int[] streams;
        final int[] sizes;
        final int[] epochs;
        int count;

        Frames(int capacity) {
            int length = Math.max(capacity, 0);
            numbers = new int[length];
            streams = new int[length];
            sizes = new int[length];
            epochs = new int[length];
            count = 0;
        }

        void copyFrom(Frames other) {
            count = Math.min(other.count, numbers.length);
            for (int k = 0; k < count; k++) {
                numbers[k] = other.numbers[k];
                streams[k] = other.streams[k];
                sizes[k] = other.sizes[k];
                epochs[k] = other.epochs[k];
            }
        }

        boolean isFull() {
            return count >= numbers.length;
        }

        boolean hasFrame(int k) {
            return k >= 0 && k < count;
        }

        int numberAt(int k) {
            return hasFrame(k) ? numbers[k] : NONE;
        }

        int streamAt(int k) {
            return hasFrame(k) ? streams[k] : NONE;
        }

        int sizeAt(int k) {
            return hasFrame(k) ? sizes[k] : NONE;
        }

        int epochAt(int k) {
            return hasFrame(k) ? epochs[k] : NONE;
        }

        void add(int number, int s, int size, int epoch) {
            if (isFull()) {
                return;
            }
            numbers[count] = number;
            streams[count] = s;
            sizes[count] = size;
            epochs[count] = epoch;
            count++;
        }

        void removeFirst() {
            if (count == 0) {
                return;
            }
            for (int k = 1; k < count; k++) {
                numbers[k - 1] = numbers[k];
                streams[k - 1] = streams[k];
                sizes[k - 1] = sizes[k];
                epochs[k - 1] = epochs[k];
            }
            count--;
        }

        int sizeOfAll() {
            int sum = 0;
            for (int k = 0; k < count; k++) {
                sum += sizes[k];
            }
            return sum;
        }

        int countOfEpochUpTo(int epoch) {
            int found = 0;
            for (int k = 0; k < count; k++) {
                if (epochs[k] <= epoch) {
                    found++;
                }
            }
            return found;
        }
    }

    /** Edges between the streams without a cycle; a set of streams is a mask with a bit for each. */
    private static final class Order {
        /** For each stream the streams to which an edge leads from it. */
        final int[] next;
        /** For each stream the streams that it precedes; kept, as sending asks for it often. */
        final int[] preceded;

        Order() {
            next = new int[STREAMS];
            preceded = new int[STREAMS];
        }

        void copyFrom(Order other) {
            for (int s = 0; s < STREAMS; s++) {
                next[s] = other.next[s];
                preceded[s] = other.preceded[s];
            }
        }

        boolean hasEdge(int a, int b) {
            return isStream(a) && isIn(next[a], b);
        }

        boolean precedes(int a, int b) {
            return isStream(a) && isIn(preceded[a], b);
        }

        void putEdge(int a, int b, boolean on) {
            if (!areTwoStreams(a, b)) {
                return;
            }
            next[a] = on ? next[a] | setOf(b) : next[a] & ~setOf(b);
            findPreceded();
        }

        private void findPreceded() {
            for (int s = 0; s < STREAMS; s++) {
                preceded[s] = next[s];
            }
            for (int over = 0; over < STREAMS; over++) {
                for (int s = 0; s < STREAMS; s++) {
                    if (isIn(preceded[s], over)) {
                        preceded[s] |= preceded[over];
                    }
                }
            }
        }

        int edgeCount() {
            int count = 0;
            for (int s = 0; s < STREAMS; s++) {
                count += Integer.bitCount(next[s]);
            }
            return count;
        }

        boolean hasSameEdges(Order other) {
            for (int s = 0; s < STREAMS; s++) {
                if (next[s] != other.next[s]) {
                    return false;
                }
            }
            return true;
        }

        /** The number of edges of a shortest walk; NONE if there is none. */
        int distance(int from, int to) {
            int reached = setOf(from);
            for (int edges = 0; edges < STREAMS; edges++) {
                if (isIn(reached, to)) {
                    return edges;
                }
                reached |= nextOfAll(reached);
            }
            return NONE;
        }

        private int nextOfAll(int set) {
            int all = 0;
            for (int s = 0; s < STREAMS; s++) {
                if (isIn(set, s)) {
                    all |= next[s];
                }
            }
            return all;
        }

        /** The stream k of the shortest walk whose list is the smallest; there must be such a walk. */
        int streamOfWalk(int from, int to, int k) {
            int s = from;
            int left = distance(from, to);
            for (int i = 0; i < k && i < STREAMS; i++) {
                left--;
                s = lowestNextAt(s, to, left);
            }
            return s;
        }

        private int lowestNextAt(int s, int to, int edges) {
            for (int t = 0; t < STREAMS; t++) {
                if (hasEdge(s, t) && distance(t, to) == edges) {
                    return t;
                }
            }
            return NONE;
        }

        int pairsAmong(int set) {
            int pairs = 0;
            for (int s = 0; s < STREAMS; s++) {
                if (isIn(set, s)) {
                    pairs += Integer.bitCount(preceded[s] & set);
                }
            }
            return pairs;
        }

        /** The streams of a set that no stream of the set precedes. */
        int firstOf(int set) {
            int first = set;
            for (int s = 0; s < STREAMS; s++) {
                if (isIn(set, s)) {
                    first &= ~preceded[s];
                }
            }
            return first;
        }

        int longestChainAmong(int set) {
            // A longest chain has one stream of each layer that is taken off.
            int rest = set;
            int layers = 0;
            while (rest != 0 && layers < STREAMS) {
                rest &= ~firstOf(rest);
                layers++;
            }
            return layers;
        }

        int widestChoiceAmong(int set) {
            int widest = 0;
            for (int choice = 0; choice < STREAM_SETS; choice++) {
                int size = Integer.bitCount(choice);
                if ((choice & ~set) == 0 && size > widest && firstOf(choice) == choice) {
                    widest = size;
                }
            }
            return widest;
        }

        int needlessEdges() {
            int needless = 0;
            for (int a = 0; a < STREAMS; a++) {
                for (int b = 0; b < STREAMS; b++) {
                    if (hasEdge(a, b) && isPrecededByNextOf(a, b)) {
                        needless++;
                    }
                }
            }
            return needless;
        }

        private boolean isPrecededByNextOf(int a, int b) {
            for (int c = 0; c < STREAMS; c++) {
                if (hasEdge(a, c) && precedes(c, b)) {
                    return true;
                }
            }
            return false;
        }

        /** Counts the lists of each set from those of the smaller sets, by the stream that stands last. */
        long countLists(int all, long[] listsOf) {
            if (all < 0 || all >= listsOf.length) {
                return 0;
            }
            listsOf[0] = 1;
            for (int set = 1; set <= all; set++) {
                listsOf[set] = (set & ~all) == 0 ? listsByLast(set, listsOf) : 0;
            }
            return listsOf[all];
        }

        private long listsByLast(int set, long[] listsOf) {
            long lists = 0;
            for (int s = 0; s < STREAMS; s++) {
                if (isIn(set, s) && (preceded[s] & set) == 0) {
                    lists += listsOf[set & ~setOf(s)];
                }
            }
            return lists;
        }
    }

    /** Everything that the history and the images record. */
    private static final class State {
        int opened;
        final int[] weights;
        final int[] amounts;
        final Frames[] queues;
        final Order draft;
        final Order[] orders;
        int epochCount;
        int came;
        int sent;
        final Frames sentFrames;

        State() {
            opened = 0;
            weights = new int[STREAMS];
            amounts = new int[STREAMS];
            queues = new Frames[STREAMS];
            for (int s = 0; s < STREAMS; s++) {
                weights[s] = 1;
                queues[s] = new Frames(QUEUE_LENGTH);
            }
            draft = new Order();
            orders = new Order[EPOCHS];
            for (int e = 0; e < EPOCHS; e++) {
                orders[e] = new Order();
            }
            epochCount = 1;
            came = 0;
            sent = 0;
            sentFrames = new Frames(LOG_LENGTH);
        }

        void copyFrom(State other) {
            opened = other.opened;
            for (int s = 0; s < STREAMS; s++) {
                weights[s] = other.weights[s];
                amounts[s] = other.amounts[s];
                queues[s].copyFrom(other.queues[s]);
            }
            draft.copyFrom(other.draft);
            epochCount = other.epochCount;
            for (int e = 0; e < epochCount && e < EPOCHS; e++) {
                orders[e].copyFrom(other.orders[e]);
            }
            came = other.came;
            sent = other.sent;
            sentFrames.copyFrom(other.sentFrames);
        }

        boolean isOpen(int s) {
            return isIn(opened, s);
        }

        void openStream(int s, int weight) {
            if (!isStream(s)) {
                return;
            }
            opened |= setOf(s);
            weights[s] = weight;
            amounts[s] = 0;
        }

        void closeStream(int s) {
            opened &= ~setOf(s);
        }

        int currentEpoch() {
            return epochCount - 1;
        }

        /** The order of an epoch, or the draft for what is none. */
        Order orderOf(int epoch) {
            return epoch >= 0 && epoch < epochCount && epoch < EPOCHS ? orders[epoch] : draft;
        }

        void beginEpoch() {
            if (epochCount >= EPOCHS) {
                return;
            }
            orders[epochCount].copyFrom(draft);
            epochCount++;
        }

        int takeFrame(int s, int size) {
            if (!isStream(s)) {
                return NONE;
            }
            int number = came;
            queues[s].add(number, s, size, currentEpoch());
            came++;
            return number;
        }

        int waitingCount() {
            int count = 0;
            for (int s = 0; s < STREAMS; s++) {
                count += queues[s].count;
            }
            return count;
        }

        int waitingSize() {
            int sum = 0;
            for (int s = 0; s < STREAMS; s++) {
                sum += queues[s].sizeOfAll();
            }
            return sum;
        }

        /** Counts the waiting frames that block the first waiting frame of a stream. */
        int blockersOfFirst(int s) {
            if (!isStream(s) || queues[s].count == 0) {
                return 0;
            }
            int epoch = queues[s].epochAt(0);
            Order valid = orderOf(epoch);
            int blockers = 0;
            for (int a = 0; a < STREAMS; a++) {
                if (valid.precedes(a, s)) {
                    blockers += queues[a].countOfEpochUpTo(epoch);
                }
            }
            return blockers;
        }

        boolean isCandidate(int s) {
            return isStream(s) && queues[s].count > 0 && blockersOfFirst(s) == 0;
        }

        int candidateCount() {
            int count = 0;
            for (int s = 0; s < STREAMS; s++) {
                if (isCandidate(s)) {
                    count++;
                }
            }
            return count;
        }

        /** The stream of the next frame; NONE if no frame is waiting. */
        int nextStream() {
            int best = NONE;
            for (int s = 0; s < STREAMS; s++) {
                if (isCandidate(s) && (best == NONE || isLessServed(s, best))) {
                    best = s;
                }
            }
            return best;
        }

        /** Compares amount / weight of two streams without dividing, so that nothing is rounded. */
        private boolean isLessServed(int s, int t) {
            return isStream(s) && isStream(t)
                    && (long) amounts[s] * weights[t] < (long) amounts[t] * weights[s];
        }

        void sendFirst(int s) {
            if (!isStream(s) || queues[s].count == 0) {
                return;
            }
            Frames queue = queues[s];
            int size = queue.sizeAt(0);
            if (sentFrames.isFull()) {
                sentFrames.removeFirst();
            }
            sentFrames.add(queue.numberAt(0), s, size, queue.epochAt(0));
            queue.removeFirst();
            amounts[s] += size;
            sent++;
        }
    }
}
