import java.util.Arrays;
import java.util.NoSuchElementException;

/** A laboratory for hash tables with open addressing. */
public final class HashLab {

    private static final int NONE = -1;

    private static final int KINDS = 3;
    private static final int LINEAR = 0;
    private static final int TRIANGULAR = 1;
    private static final int DOUBLE_HASHING = 2;

    private static final int GREATEST_KEY = 9999;
    private static final int GREATEST_VALUE = 999;
    private static final int GREATEST_SEED = 999;
    private static final int LEAST_LIMIT = 25;
    private static final int FIRST_LIMIT = 70;
    private static final int GREATEST_LIMIT = 90;
    private static final int LEAST_CAPACITY = 8;
    private static final int GREATEST_CAPACITY = 64;

    private static final int TRIAL_MODULUS = 10007;
    private static final int MOST_TRIAL_KEYS = 40;

    private final Table table;
    /** For trials and checks, so that they need no new table at each call. */
    private final Table spare;
    /** The state ahead of a program, for the case that one of its commands fails. */
    private final Table before;
    private final Table saved;
    private final History history;
    private final Program program;
    private final Line line;
    private boolean isSaved;
    private int recordedPosition;
    private int recordedCommand;

    public HashLab() {
        table = new Table();
        spare = new Table();
        before = new Table();
        saved = new Table();
        history = new History();
        program = new Program();
        line = new Line();
        isSaved = false;
        recordedPosition = NONE;
        recordedCommand = NONE;
    }

    // ---- changing the table

    public boolean put(int key, int value) throws IllegalArgumentException, IllegalStateException {
        if (!isKey(key) || !isValue(value)) {
            throw new IllegalArgumentException("the key or the value is out of range");
        }
        boolean isNew = table.slotHolding(key) == NONE;
        if (isNew && !table.hasRoom()) {
            throw new IllegalStateException("the key cannot be put");
        }
        history.record(table);
        table.enter(key, value);
        return isNew;
    }

    public int remove(int key) throws NoSuchElementException {
        int slot = table.slotHolding(key);
        if (slot == NONE) {
            throw new NoSuchElementException("the key is not contained");
        }
        int value = table.valueOf(slot);
        history.record(table);
        table.bury(slot);
        return value;
    }

    public int rebuild() {
        int previous = table.tombs;
        history.record(table);
        table.rebuildWith(table.capacity);
        return previous;
    }

    public int setKind(int kind) throws IllegalArgumentException {
        if (!isKind(kind)) {
            throw new IllegalArgumentException("there is no such kind");
        }
        int previous = table.kind;
        history.record(table);
        table.changeKind(kind);
        return previous;
    }

    public int setSeed(int seed) throws IllegalArgumentException {
        if (!isSeed(seed)) {
            throw new IllegalArgumentException("the seed is out of range");
        }
        int previous = table.seed;
        history.record(table);
        table.changeSeed(seed);
        return previous;
    }

    public int setLimit(int limit) throws IllegalArgumentException {
        if (!isLimit(limit)) {
            throw new IllegalArgumentException("the limit is out of range");
        }
        int previous = table.limit;
        history.record(table);
        table.limit = limit;
        return previous;
    }

    public int clear() {
        int previous = table.full;
        history.record(table);
        table.empty(LEAST_CAPACITY);
        return previous;
    }

    // ---- properties of the table

    public int size() {
        return table.full;
    }

    public int capacity() {
        return table.capacity;
    }

    public int tombstones() {
        return table.tombs;
    }

    public int kind() {
        return table.kind;
    }

    public int seed() {
        return table.seed;
    }

    public int limit() {
        return table.limit;
    }

    public int rebuilds() {
        return table.rebuilt;
    }

    public int growths() {
        return table.grown;
    }

    public boolean isNearLimit() {
        // A key that cannot be put exceeds the limit here too, so one test serves both.
        return table.needsRebuild();
    }

    // ---- keys

    public boolean contains(int key) {
        return table.slotHolding(key) != NONE;
    }

    public int get(int key) throws NoSuchElementException {
        int slot = table.slotHolding(key);
        if (slot == NONE) {
            throw new NoSuchElementException("the key is not contained");
        }
        return table.valueOf(slot);
    }

    public int slotOf(int key) throws NoSuchElementException {
        int slot = table.slotHolding(key);
        if (slot == NONE) {
            throw new NoSuchElementException("the key is not contained");
        }
        return slot;
    }

    public int probe(int key, int index) throws IllegalArgumentException, IndexOutOfBoundsException {
        if (!isKey(key)) {
            throw new IllegalArgumentException("the key is out of range");
        }
        if (!table.hasSlot(index)) {
            throw new IndexOutOfBoundsException("the probe sequence has no such index");
        }
        return table.slotInSequence(key, index);
    }

    public int step(int key) throws IllegalArgumentException {
        if (!isKey(key)) {
            throw new IllegalArgumentException("the key is out of range");
        }
        return table.strideOf(table.hashOf(key));
    }

    public int probes(int key) throws IllegalArgumentException {
        if (!isKey(key)) {
            throw new IllegalArgumentException("the key is out of range");
        }
        return table.searchLength(key);
    }

    public int probesBySlot(int key) throws NoSuchElementException {
        int slot = table.slotHolding(key);
        if (slot == NONE) {
            throw new NoSuchElementException("the key is not contained");
        }
        return table.distanceTo(slot, key);
    }

    public int keyAt(int rank) throws NoSuchElementException {
        if (rank < 0 || rank >= table.full) {
            throw new NoSuchElementException("there is no such rank");
        }
        int key = table.keyAfter(NONE);
        for (int passed = 0; passed < rank; passed++) {
            key = table.keyAfter(key);
        }
        return key;
    }

    public int hardestKey() throws NoSuchElementException {
        int hardest = NONE;
        int most = 0;
        for (int slot = 0; slot < table.capacity; slot++) {
            int key = table.content(slot);
            int length = table.isFullSlot(slot) ? table.searchLength(key) : 0;
            if (length > most || (length == most && length > 0 && key < hardest)) {
                hardest = key;
                most = length;
            }
        }
        if (hardest == NONE) {
            throw new NoSuchElementException("there are no keys");
        }
        return hardest;
    }

    // ---- slots and clusters

    public boolean isFull(int slot) throws IndexOutOfBoundsException {
        if (!table.hasSlot(slot)) {
            throw new IndexOutOfBoundsException("there is no such slot");
        }
        return table.isFullSlot(slot);
    }

    public boolean isTombstone(int slot) throws IndexOutOfBoundsException {
        if (!table.hasSlot(slot)) {
            throw new IndexOutOfBoundsException("there is no such slot");
        }
        return table.content(slot) == Table.TOMBSTONE;
    }

    public int keyIn(int slot) throws IndexOutOfBoundsException, NoSuchElementException {
        if (!table.hasSlot(slot)) {
            throw new IndexOutOfBoundsException("there is no such slot");
        }
        if (!table.isFullSlot(slot)) {
            throw new NoSuchElementException("the slot is not full");
        }
        return table.content(slot);
    }

    public int clusters() {
        return Clusters.number(table);
    }

    public int clusterSize(int slot) throws IndexOutOfBoundsException {
        if (!table.hasSlot(slot)) {
            throw new IndexOutOfBoundsException("there is no such slot");
        }
        return Clusters.sizeAt(table, slot);
    }

    public int largestCluster() {
        return Clusters.largestAround(table);
    }

    public int largestClusterByHalves() {
        return Clusters.largestOfHalves(table);
    }

    // ---- statistics and trials

    public double meanProbes() throws ArithmeticException {
        if (table.full <= 0) {
            throw new ArithmeticException("there are no keys");
        }
        return table.meanSearchLength();
    }

    public long meanProbesBits() throws ArithmeticException {
        if (table.full <= 0) {
            throw new ArithmeticException("there are no keys");
        }
        return Bits.ofMean(table.meanSearchLength());
    }

    public float load() {
        return table.share();
    }

    public int loadBits() {
        return Bits.ofShare(table.share());
    }

    public int trial(int kind, int start, int count) throws IllegalArgumentException {
        if (!isKind(kind) || !isTrial(start, count)) {
            throw new IllegalArgumentException("a number is out of range");
        }
        return trialResult(kind, start, count);
    }

    public int bestKind(int start, int count) throws IllegalArgumentException {
        if (!isTrial(start, count)) {
            throw new IllegalArgumentException("a number is out of range");
        }
        int best = LINEAR;
        int least = trialResult(LINEAR, start, count);
        for (int kind = TRIANGULAR; kind < KINDS; kind++) {
            int result = trialResult(kind, start, count);
            if (result < least) {
                best = kind;
                least = result;
            }
        }
        return best;
    }

    public boolean isConsistent() {
        return table.bothCountsAgree()
                && Clusters.largestAround(table) == Clusters.largestOfHalves(table)
                && table.sequencesVisitAllSlots()
                && everyKindKeepsTheKeys();
    }

    // ---- output

    public int writeSlots() {
        line.empty();
        for (int slot = 0; slot < table.capacity; slot++) {
            line.add(signOf(slot));
        }
        return line.length;
    }

    public int writeKeys() {
        line.empty();
        int key = NONE;
        for (int written = 0; written < table.full; written++) {
            key = table.keyAfter(key);
            if (written > 0) {
                line.add(',');
            }
            line.addNumber(key);
            line.add('=');
            line.addNumber(table.valueOf(table.slotHolding(key)));
        }
        return line.length;
    }

    public char charAt(int index) throws IndexOutOfBoundsException {
        if (index < 0 || index >= line.length) {
            throw new IndexOutOfBoundsException("the line has no such index");
        }
        return line.signAt(index);
    }

    // ---- programs

    public int type(char character) throws IllegalStateException {
        if (program.length >= Program.MOST_SIGNS) {
            throw new IllegalStateException("the program buffer is full");
        }
        program.add(character);
        return program.length;
    }

    public int run() throws IllegalArgumentException, UnsupportedOperationException {
        boolean isProgram = program.parse();
        program.length = 0;
        if (!isProgram) {
            recordedPosition = program.position;
            throw new IllegalArgumentException("the text is not a program");
        }
        before.copyFrom(table);
        int executed = 0;
        while (executed < program.count && execute(executed)) {
            executed++;
        }
        if (executed < program.count) {
            table.copyFrom(before);
            recordedCommand = executed;
            throw new UnsupportedOperationException("a command failed");
        }
        history.record(before);
        return executed;
    }

    public int errorPosition() throws NoSuchElementException {
        if (recordedPosition == NONE) {
            throw new NoSuchElementException("every text was a program");
        }
        return recordedPosition;
    }

    public int failedCommand() throws NoSuchElementException {
        if (recordedCommand == NONE) {
            throw new NoSuchElementException("no command failed");
        }
        return recordedCommand;
    }

    // ---- undo and snapshots

    public int undo() throws IllegalStateException {
        if (history.count <= 0) {
            throw new IllegalStateException("no change can be undone");
        }
        history.takeBack(table);
        return history.count;
    }

    public int save() {
        saved.copyFrom(table);
        isSaved = true;
        return saved.full;
    }

    public int restore() throws IllegalStateException {
        if (!isSaved) {
            throw new IllegalStateException("no state was saved");
        }
        table.copyFrom(saved);
        history.forget();
        return table.full;
    }

    // ---- what the face is made of

    private static boolean isKey(int key) {
        return key >= 0 && key <= GREATEST_KEY;
    }

    private static boolean isValue(int value) {
        return value >= -GREATEST_VALUE && value <= GREATEST_VALUE;
    }

    private static boolean isKind(int kind) {
        return kind >= LINEAR && kind < KINDS;
    }

    private static boolean isSeed(int seed) {
        return seed >= 0 && seed <= GREATEST_SEED;
    }

    private static boolean isLimit(int limit) {
        return limit >= LEAST_LIMIT && limit <= GREATEST_LIMIT;
    }

    private static boolean isTrial(int start, int count) {
        return start >= 0 && start < TRIAL_MODULUS && count >= 1 && count <= MOST_TRIAL_KEYS;
    }

    private int trialResult(int kind, int start, int count) {
        spare.beginTrial(kind, table.seed, table.limit);
        int sum = 0;
        int number = start;
        for (int done = 0; done < count; done++) {
            number = (137 * number + 59) % TRIAL_MODULUS;
            int key = number % (GREATEST_KEY + 1);
            sum += spare.searchLength(key);
            spare.enter(key, 0);
        }
        return sum;
    }

    private boolean everyKindKeepsTheKeys() {
        for (int kind = LINEAR; kind < KINDS; kind++) {
            spare.copyFrom(table);
            spare.changeKind(kind);
            if (!spare.hasKeysOf(table)) {
                return false;
            }
        }
        return true;
    }

    private char signOf(int slot) {
        if (table.content(slot) == Table.EMPTY) {
            return '.';
        }
        if (table.content(slot) == Table.TOMBSTONE) {
            return 'x';
        }
        int length = table.searchLength(table.content(slot));
        return length > 9 ? '+' : (char) ('0' + length);
    }

    /**
     * Returns false, and leaves the table as it is, where the method for the command would throw.
     * The grammar keeps keys, values, kinds and seeds in range, so of the numbers only a limit is tested.
     */
    private boolean execute(int command) {
        int operand = program.operandOf(command);
        switch (program.verbOf(command)) {
            case Program.PUT:
                return table.enter(operand, program.valueOf(command));
            case Program.REMOVE:
                return table.bury(table.slotHolding(operand));
            case Program.KIND:
                table.changeKind(operand);
                return true;
            case Program.LIMIT:
                if (!isLimit(operand)) {
                    return false;
                }
                table.limit = operand;
                return true;
            case Program.SEED:
                table.changeSeed(operand);
                return true;
            case Program.REBUILD:
                table.rebuildWith(table.capacity);
                return true;
            case Program.CLEAR:
                table.empty(LEAST_CAPACITY);
                return true;
            default:
                return false;
        }
    }

    /** A table with its settings and counters, which is all that undo, save and restore bring back. */
    private static final class Table {

        private static final int EMPTY = -1;
        private static final int TOMBSTONE = -2;

        private final int[] keys;
        private final int[] values;
        private final int[] oldKeys;
        private final int[] oldValues;
        private int capacity;
        private int kind;
        private int seed;
        private int limit;
        private int full;
        private int tombs;
        private int rebuilt;
        private int grown;

        Table() {
            keys = new int[GREATEST_CAPACITY];
            values = new int[GREATEST_CAPACITY];
            oldKeys = new int[GREATEST_CAPACITY];
            oldValues = new int[GREATEST_CAPACITY];
            kind = LINEAR;
            limit = FIRST_LIMIT;
            capacity = LEAST_CAPACITY;
            Arrays.fill(keys, EMPTY);
        }

        void copyFrom(Table other) {
            System.arraycopy(other.keys, 0, keys, 0, GREATEST_CAPACITY);
            System.arraycopy(other.values, 0, values, 0, GREATEST_CAPACITY);
            capacity = other.capacity;
            kind = other.kind;
            seed = other.seed;
            limit = other.limit;
            full = other.full;
            tombs = other.tombs;
            rebuilt = other.rebuilt;
            grown = other.grown;
        }

        void empty(int newCapacity) {
            Arrays.fill(keys, EMPTY);
            capacity = newCapacity;
            full = 0;
            tombs = 0;
        }

        void beginTrial(int trialKind, int trialSeed, int trialLimit) {
            empty(LEAST_CAPACITY);
            kind = trialKind;
            seed = trialSeed;
            limit = trialLimit;
        }

        boolean hasSlot(int slot) {
            return slot >= 0 && slot < capacity;
        }

        int content(int slot) {
            return isInRows(slot) ? keys[slot] : EMPTY;
        }

        int valueOf(int slot) {
            return isInRows(slot) ? values[slot] : 0;
        }

        boolean isUsed(int slot) {
            return content(slot) != EMPTY;
        }

        boolean isFullSlot(int slot) {
            return content(slot) >= 0;
        }

        int hashOf(int key) {
            return (40503 * key + 9973 * seed) % 65536;
        }

        int strideOf(int hash) {
            if (kind != DOUBLE_HASHING || capacity < 2) {
                return 1;
            }
            return 2 * (hash / capacity % (capacity / 2)) + 1;
        }

        int slotInSequence(int key, int index) {
            int hash = hashOf(key);
            return wrap(wrap(hash) + offsetAt(index, strideOf(hash)));
        }

        /** The key must be in range. */
        int searchLength(int key) {
            for (int index = 0; index < capacity; index++) {
                int found = content(slotInSequence(key, index));
                if (found == key || found == EMPTY) {
                    return index + 1;
                }
            }
            return capacity;
        }

        int slotHolding(int key) {
            if (!isKey(key)) {
                return NONE;
            }
            int last = slotInSequence(key, searchLength(key) - 1);
            return content(last) == key ? last : NONE;
        }

        int distanceTo(int slot, int key) {
            int hash = hashOf(key);
            int distance = wrap(slot - wrap(hash));
            int stride = strideOf(hash);
            for (int index = 0; index < capacity; index++) {
                if (wrap(offsetAt(index, stride)) == distance) {
                    return index + 1;
                }
            }
            return capacity;
        }

        /** Returns the smallest key above a bound, or NONE. */
        int keyAfter(int bound) {
            int least = NONE;
            for (int slot = 0; slot < capacity; slot++) {
                int key = content(slot);
                if (isFullSlot(slot) && key > bound && (least == NONE || key < least)) {
                    least = key;
                }
            }
            return least;
        }

        boolean needsRebuild() {
            return exceedsLimit(full + tombs + 1, capacity);
        }

        boolean hasRoom() {
            return !needsRebuild() || !exceedsLimit(full + 1, nextCapacity());
        }

        /** Returns false, and changes nothing, if the key is new and cannot be put. */
        boolean enter(int key, int value) {
            int slot = slotHolding(key);
            if (isInRows(slot)) {
                values[slot] = value;
                return true;
            }
            if (!hasRoom()) {
                return false;
            }
            if (needsRebuild()) {
                rebuildWith(nextCapacity());
            }
            place(key, value);
            return true;
        }

        /** Returns false, and changes nothing, if the slot is not full. */
        boolean bury(int slot) {
            if (!isInRows(slot) || keys[slot] < 0) {
                return false;
            }
            keys[slot] = TOMBSTONE;
            full--;
            tombs++;
            return true;
        }

        void changeKind(int newKind) {
            kind = newKind;
            rebuildWith(capacity);
        }

        void changeSeed(int newSeed) {
            seed = newSeed;
            rebuildWith(capacity);
        }

        void rebuildWith(int newCapacity) {
            System.arraycopy(keys, 0, oldKeys, 0, GREATEST_CAPACITY);
            System.arraycopy(values, 0, oldValues, 0, GREATEST_CAPACITY);
            rebuilt++;
            if (newCapacity > capacity) {
                grown++;
            }
            empty(newCapacity);
            for (int slot = 0; slot < GREATEST_CAPACITY; slot++) {
                if (oldKeys[slot] >= 0) {
                    place(oldKeys[slot], oldValues[slot]);
                }
            }
        }

        double meanSearchLength() {
            int sum = 0;
            for (int slot = 0; slot < capacity; slot++) {
                if (isFullSlot(slot)) {
                    sum += searchLength(content(slot));
                }
            }
            return full > 0 ? (double) sum / (double) full : 0.0;
        }

        float share() {
            return capacity > 0 ? (float) full / (float) capacity : 0.0f;
        }

        boolean bothCountsAgree() {
            for (int slot = 0; slot < capacity; slot++) {
                int key = content(slot);
                if (isFullSlot(slot) && searchLength(key) != distanceTo(slot, key)) {
                    return false;
                }
            }
            return true;
        }

        boolean sequencesVisitAllSlots() {
            for (int slot = 0; slot < capacity; slot++) {
                if (isFullSlot(slot) && numberVisited(content(slot)) != capacity) {
                    return false;
                }
            }
            return true;
        }

        boolean hasKeysOf(Table other) {
            for (int slot = 0; slot < other.capacity; slot++) {
                if (other.isFullSlot(slot) && slotHolding(other.content(slot)) == NONE) {
                    return false;
                }
            }
            return full == other.full;
        }

        private static boolean isInRows(int slot) {
            return slot >= 0 && slot < GREATEST_CAPACITY;
        }

        /** A mask serves for the remainder, even below zero, as every capacity is a power of two. */
        private int wrap(int number) {
            return number & (capacity - 1);
        }

        private int offsetAt(int index, int stride) {
            return kind == TRIANGULAR ? index * (index + 1) / 2 : index * stride;
        }

        private boolean exceedsLimit(int slots, int ofCapacity) {
            return 100 * slots > limit * ofCapacity;
        }

        private int nextCapacity() {
            if (!exceedsLimit(2 * (full + 1), capacity)) {
                return capacity;
            }
            return Math.min(2 * capacity, GREATEST_CAPACITY);
        }

        /** Puts a new key; the first slot that is not full is the first tombstone or else the empty slot. */
        private void place(int key, int value) {
            for (int index = 0; index < capacity; index++) {
                int slot = slotInSequence(key, index);
                if (isInRows(slot) && keys[slot] < 0) {
                    if (keys[slot] == TOMBSTONE) {
                        tombs--;
                    }
                    keys[slot] = key;
                    values[slot] = value;
                    full++;
                    return;
                }
            }
        }

        private int numberVisited(int key) {
            long visited = 0L;
            for (int index = 0; index < capacity; index++) {
                visited |= 1L << slotInSequence(key, index);
            }
            return Long.bitCount(visited);
        }
    }

    /** Measures the clusters of a table. */
    private static final class Clusters {

        private static final int DEEPEST = 8;

        static int number(Table table) {
            int beginnings = 0;
            for (int slot = 0; slot < table.capacity; slot++) {
                if (table.isUsed(slot) && !table.isUsed(table.wrap(slot - 1))) {
                    beginnings++;
                }
            }
            return beginnings;
        }

        static int sizeAt(Table table, int slot) {
            if (!table.isUsed(slot)) {
                return 0;
            }
            int size = 1;
            int next = table.wrap(slot + 1);
            while (size < table.capacity && table.isUsed(next)) {
                size++;
                next = table.wrap(next + 1);
            }
            int previous = table.wrap(slot - 1);
            while (size < table.capacity && table.isUsed(previous)) {
                size++;
                previous = table.wrap(previous - 1);
            }
            return size;
        }

        static int largestAround(Table table) {
            int start = 0;
            while (start < table.capacity && table.isUsed(start)) {
                start++;
            }
            int largest = 0;
            int size = 0;
            for (int passed = 1; passed <= table.capacity; passed++) {
                size = table.isUsed(table.wrap(start + passed)) ? size + 1 : 0;
                largest = Math.max(largest, size);
            }
            return largest;
        }

        static int largestOfHalves(Table table) {
            int end = table.capacity;
            // The range ends where it begins again, so a cluster may lie across that seam as well.
            int acrossSeam = usedBefore(table, end, 0) + usedFrom(table, 0, end);
            return Math.max(acrossSeam, largestIn(table, 0, end, 0));
        }

        private static int largestIn(Table table, int from, int to, int depth) {
            if (from >= to || depth > DEEPEST) {
                return 0;
            }
            if (to - from == 1) {
                return table.isUsed(from) ? 1 : 0;
            }
            int middle = (from + to) / 2;
            int inHalves = Math.max(largestIn(table, from, middle, depth + 1),
                    largestIn(table, middle, to, depth + 1));
            int across = usedBefore(table, middle, from) + usedFrom(table, middle, to);
            return Math.max(inHalves, across);
        }

        private static int usedBefore(Table table, int end, int from) {
            int size = 0;
            for (int slot = end - 1; slot >= from && table.isUsed(slot); slot--) {
                size++;
            }
            return size;
        }

        private static int usedFrom(Table table, int start, int to) {
            int size = 0;
            for (int slot = start; slot < to && table.isUsed(slot); slot++) {
                size++;
            }
            return size;
        }
    }

    /** The bits of the two numbers that the class answers, made by arithmetic alone. */
    private static final class Bits {

        /** A mean is at least 1, so its exponent is never below that of 1. */
        static long ofMean(double mean) {
            double fraction = mean;
            long exponent = 1023L;
            while (fraction >= 2.0 && exponent < 2046L) {
                fraction = fraction / 2.0;
                exponent++;
            }
            long mantissa = (long) ((fraction - 1.0) * (double) (1L << 52));
            return (exponent << 52) | mantissa;
        }

        /** A share is 0 or from 1/64 to 1, so its exponent is never above that of 1. */
        static int ofShare(float share) {
            if (share <= 0.0f) {
                return 0;
            }
            float fraction = share;
            int exponent = 127;
            while (fraction < 1.0f && exponent > 1) {
                fraction = fraction * 2.0f;
                exponent--;
            }
            int mantissa = (int) ((fraction - 1.0f) * (float) (1 << 23));
            return (exponent << 23) | mantissa;
        }
    }

    /** The states ahead of the latest changes, of which the oldest gives way. */
    private static final class History {

        private static final int MOST_CHANGES = 8;

        private final Table[] past;
        private int newest;
        private int count;

        History() {
            past = new Table[MOST_CHANGES];
            for (int index = 0; index < MOST_CHANGES; index++) {
                past[index] = new Table();
            }
        }

        void record(Table state) {
            newest = newest + 1 < MOST_CHANGES ? newest + 1 : 0;
            count = Math.min(count + 1, MOST_CHANGES);
            Table place = newestState();
            if (place != null) {
                place.copyFrom(state);
            }
        }

        void takeBack(Table state) {
            Table place = newestState();
            if (place != null) {
                state.copyFrom(place);
            }
            newest = newest > 0 ? newest - 1 : MOST_CHANGES - 1;
            count = Math.max(count - 1, 0);
        }

        void forget() {
            count = 0;
        }

        private Table newestState() {
            return newest >= 0 && newest < MOST_CHANGES ? past[newest] : null;
        }
    }

    /** The program buffer, and the commands of the text that was parsed last. */
    private static final class Program {

        private static final int MOST_SIGNS = 60;

        private static final int VERBS = 7;
        private static final int PUT = 0;
        private static final int REMOVE = 1;
        private static final int KIND = 2;
        private static final int LIMIT = 3;
        private static final int SEED = 4;
        private static final int REBUILD = 5;
        private static final int CLEAR = 6;

        private static final int KEY_DIGITS = 4;
        private static final int NUMBER_DIGITS = 3;

        /** No program contains this character, so it may stand for the end of the text. */
        private static final char END = 0;

        private final char[] signs;
        private final int[] verbs;
        private final int[] operands;
        private final int[] values;
        private int length;
        private int position;
        private int count;

        Program() {
            signs = new char[MOST_SIGNS];
            verbs = new int[MOST_SIGNS];
            operands = new int[MOST_SIGNS];
            values = new int[MOST_SIGNS];
        }

        void add(char sign) {
            if (length >= 0 && length < MOST_SIGNS) {
                signs[length] = sign;
                length++;
            }
        }

        int verbOf(int command) {
            return isCommand(command) ? verbs[command] : NONE;
        }

        int operandOf(int command) {
            return isCommand(command) ? operands[command] : NONE;
        }

        int valueOf(int command) {
            return isCommand(command) ? values[command] : 0;
        }

        /** Returns whether the text is a program; if it is not, the position is that of the error. */
        boolean parse() {
            position = 0;
            count = 0;
            for (int command = 0; command < MOST_SIGNS; command++) {
                if (!readCommand()) {
                    return false;
                }
                if (position >= length) {
                    return true;
                }
                if (!readSign(';')) {
                    return false;
                }
            }
            return false;
        }

        private boolean isCommand(int command) {
            return command >= 0 && command < count && command < MOST_SIGNS;
        }

        private boolean readCommand() {
            if (count < 0 || count >= MOST_SIGNS) {
                return false;
            }
            int verb = readVerb();
            verbs[count] = verb;
            operands[count] = NONE;
            values[count] = 0;
            boolean isRead = verb != NONE && readOperands(verb);
            count++;
            return isRead;
        }

        private boolean readOperands(int verb) {
            switch (verb) {
                case PUT:
                    return readOperand(KEY_DIGITS) && readSign('=') && readValue();
                case REMOVE:
                    return readOperand(KEY_DIGITS);
                case KIND:
                    return readKind();
                case LIMIT:
                case SEED:
                    return readOperand(NUMBER_DIGITS);
                default:
                    return true;
            }
        }

        private boolean readOperand(int mostDigits) {
            int number = readNumber(mostDigits);
            if (number == NONE || count < 0 || count >= MOST_SIGNS) {
                return false;
            }
            operands[count] = number;
            return true;
        }

        private boolean readValue() {
            boolean isNegative = readSign('-');
            int number = readNumber(NUMBER_DIGITS);
            if (number == NONE || count < 0 || count >= MOST_SIGNS) {
                return false;
            }
            values[count] = isNegative ? -number : number;
            return true;
        }

        private boolean readKind() {
            int kind = kindOf(signAt(position));
            if (kind == NONE || count < 0 || count >= MOST_SIGNS) {
                return false;
            }
            position++;
            operands[count] = kind;
            return true;
        }

        private static int kindOf(char sign) {
            if (sign == 'l') {
                return LINEAR;
            }
            if (sign == 't') {
                return TRIANGULAR;
            }
            return sign == 'd' ? DOUBLE_HASHING : NONE;
        }

        /** Returns the number, or NONE if there is no digit. */
        private int readNumber(int mostDigits) {
            int number = 0;
            int digits = 0;
            while (digits < mostDigits && isDigit(signAt(position))) {
                number = 10 * number + signAt(position) - '0';
                position++;
                digits++;
            }
            return digits > 0 ? number : NONE;
        }

        private static boolean isDigit(char sign) {
            return sign >= '0' && sign <= '9';
        }

        private boolean readSign(char sign) {
            if (signAt(position) != sign) {
                return false;
            }
            position++;
            return true;
        }

        /** No verb's word begins another's, so the word that goes furthest shows where the text goes wrong. */
        private int readVerb() {
            int furthest = 0;
            for (int verb = 0; verb < VERBS; verb++) {
                String word = wordOf(verb);
                int shared = sharedLength(word);
                if (shared == word.length()) {
                    position += shared;
                    return verb;
                }
                furthest = Math.max(furthest, shared);
            }
            position += furthest;
            return NONE;
        }

        private int sharedLength(String word) {
            int shared = 0;
            while (shared < word.length() && signAt(position + shared) == word.charAt(shared)) {
                shared++;
            }
            return shared;
        }

        private static String wordOf(int verb) {
            switch (verb) {
                case PUT:
                    return "put ";
                case REMOVE:
                    return "remove ";
                case KIND:
                    return "kind ";
                case LIMIT:
                    return "limit ";
                case SEED:
                    return "seed ";
                case REBUILD:
                    return "rebuild";
                default:
                    return "clear";
            }
        }

        private char signAt(int index) {
            return index >= 0 && index < length && index < MOST_SIGNS ? signs[index] : END;
        }
    }

    /** The output line. */
    private static final class Line {

        /** The longest line has a sign of four, an equals sign, a sign of four and a comma for each slot. */
        private static final int MOST_SIGNS = 10 * GREATEST_CAPACITY;

        private final char[] signs;
        private int length;

        Line() {
            signs = new char[MOST_SIGNS];
        }

        void empty() {
            length = 0;
        }

        void add(char sign) {
            if (length >= 0 && length < MOST_SIGNS) {
                signs[length] = sign;
                length++;
            }
        }

        /** The number must have at most four digits, as all keys and values have. */
        void addNumber(int number) {
            if (number < 0) {
                add('-');
            }
            int rest = Math.abs(number);
            for (int unit = 1000; unit > 0; unit /= 10) {
                if (rest >= unit || unit == 1) {
                    add((char) ('0' + rest / unit % 10));
                }
            }
        }

        char signAt(int index) {
            return index >= 0 && index < MOST_SIGNS ? signs[index] : ' ';
        }
    }
}
