import java.util.ArrayDeque;
import java.util.ArrayList;
import java.util.Arrays;
import java.util.Collections;
import java.util.Deque;
import java.util.List;
import java.util.NoSuchElementException;
import java.util.TreeMap;
import java.util.regex.Matcher;
import java.util.regex.Pattern;

/**
 * The document once more, written with the Java library and as unlike HashLab as it goes: slots are lists,
 * searches are lists of the examined slots, states are copies, and a regular expression knows the programs.
 */
public final class Model {

    private static final int TOMB = -5;
    private static final String COMMAND = "(?:put [0-9]{1,4}=-?[0-9]{1,3}|remove [0-9]{1,4}|kind [ltd]"
            + "|limit [0-9]{1,3}|seed [0-9]{1,3}|rebuild|clear)";
    private static final Pattern PROGRAM = Pattern.compile(COMMAND + "(?:;" + COMMAND + ")*");

    private static final class State {
        List<Integer> slots = new ArrayList<>(Collections.nCopies(8, null));
        TreeMap<Integer, Integer> map = new TreeMap<>();
        int kind = 0;
        int seed = 0;
        int limit = 70;
        int rebuilds = 0;
        int growths = 0;

        State copy() {
            State copy = new State();
            copy.slots = new ArrayList<>(slots);
            copy.map = new TreeMap<>(map);
            copy.kind = kind;
            copy.seed = seed;
            copy.limit = limit;
            copy.rebuilds = rebuilds;
            copy.growths = growths;
            return copy;
        }
    }

    private State now = new State();
    private State saved = null;
    private Deque<State> past = new ArrayDeque<>();
    private String line = "";
    private String buffer = "";
    private Integer position = null;
    private Integer failed = null;

    private static void demand(boolean good, RuntimeException otherwise) {
        if (!good) {
            throw otherwise;
        }
    }

    private static boolean within(int number, int least, int most) {
        return least <= number && number <= most;
    }

    private void changed(State before) {
        past.push(before);
        if (past.size() > 8) {
            past.removeLast();
        }
    }

    private long hash(int key) {
        return Math.floorMod(40503L * key + 9973L * now.seed, 65536L);
    }

    private List<Integer> sequence(int key) {
        long c = capacity();
        long stride = now.kind == 2 ? 2 * (hash(key) / c % (c / 2)) + 1 : 1;
        List<Integer> slots = new ArrayList<>();
        for (long i = 0; i < c; i++) {
            slots.add((int) ((hash(key) % c + (now.kind == 1 ? i * (i + 1) / 2 : i * stride)) % c));
        }
        return slots;
    }

    private List<Integer> examined(int key) {
        List<Integer> slots = new ArrayList<>();
        for (int slot : sequence(key)) {
            slots.add(slot);
            Integer found = now.slots.get(slot);
            if (found == null || found == key) {
                break;
            }
        }
        return slots;
    }

    private boolean exceeds(int u, int c) {
        return 100 * u > now.limit * c;
    }

    private void insert(int key) {
        List<Integer> slots = examined(key);
        int target = slots.get(slots.size() - 1);
        for (int i = slots.size() - 1; i >= 0; i--) {
            Integer found = now.slots.get(slots.get(i));
            if (found != null && found == TOMB) {
                target = slots.get(i);
            }
        }
        now.slots.set(target, key);
    }

    private void rebuildInto(int c) {
        List<Integer> old = now.slots;
        now.rebuilds++;
        now.growths += c > old.size() ? 1 : 0;
        now.slots = new ArrayList<>(Collections.nCopies(c, null));
        for (Integer key : old) {
            if (key != null && key != TOMB) {
                insert(key);
            }
        }
    }

    private void putNew(int key, int value) {
        int f = size();
        if (exceeds(f + tombstones() + 1, capacity())) {
            int c = exceeds(2 * (f + 1), capacity()) ? Math.min(64, 2 * capacity()) : capacity();
            demand(!exceeds(f + 1, c), new IllegalStateException());
            rebuildInto(c);
        }
        insert(key);
        now.map.put(key, value);
    }

    public boolean put(int key, int value) {
        demand(within(key, 0, 9999) && within(value, -999, 999), new IllegalArgumentException());
        State before = now.copy();
        boolean isNew = !now.map.containsKey(key);
        if (isNew) {
            putNew(key, value);
        } else {
            now.map.put(key, value);
        }
        changed(before);
        return isNew;
    }

    public int remove(int key) {
        demand(contains(key), new NoSuchElementException());
        changed(now.copy());
        now.slots.set(now.slots.indexOf(key), TOMB);
        return now.map.remove(key);
    }

    public int rebuild() {
        int tombs = tombstones();
        changed(now.copy());
        rebuildInto(capacity());
        return tombs;
    }

    public int setKind(int kind) {
        demand(within(kind, 0, 2), new IllegalArgumentException());
        int old = now.kind;
        changed(now.copy());
        now.kind = kind;
        rebuildInto(capacity());
        return old;
    }

    public int setSeed(int seed) {
        demand(within(seed, 0, 999), new IllegalArgumentException());
        int old = now.seed;
        changed(now.copy());
        now.seed = seed;
        rebuildInto(capacity());
        return old;
    }

    public int setLimit(int limit) {
        demand(within(limit, 25, 90), new IllegalArgumentException());
        int old = now.limit;
        changed(now.copy());
        now.limit = limit;
        return old;
    }

    public int clear() {
        int keys = size();
        changed(now.copy());
        now.slots = new ArrayList<>(Collections.nCopies(8, null));
        now.map.clear();
        return keys;
    }

    public int size() {
        return now.map.size();
    }

    public int capacity() {
        return now.slots.size();
    }

    public int tombstones() {
        return Collections.frequency(now.slots, TOMB);
    }

    public int kind() {
        return now.kind;
    }

    public int seed() {
        return now.seed;
    }

    public int limit() {
        return now.limit;
    }

    public int rebuilds() {
        return now.rebuilds;
    }

    public int growths() {
        return now.growths;
    }

    public boolean isNearLimit() {
        Model copy = new Model();
        copy.now = now.copy();
        int key = 0;
        while (contains(key)) {
            key++;
        }
        try {
            copy.put(key, 0);
        } catch (IllegalStateException full) {
            return true;
        }
        return copy.rebuilds() > rebuilds();
    }

    public boolean contains(int key) {
        return now.map.containsKey(key);
    }

    public int get(int key) {
        demand(contains(key), new NoSuchElementException());
        return now.map.get(key);
    }

    public int slotOf(int key) {
        demand(contains(key), new NoSuchElementException());
        return now.slots.indexOf(key);
    }

    public int probe(int key, int index) {
        demand(within(key, 0, 9999), new IllegalArgumentException());
        demand(within(index, 0, capacity() - 1), new IndexOutOfBoundsException());
        return sequence(key).get(index);
    }

    public int step(int key) {
        demand(within(key, 0, 9999), new IllegalArgumentException());
        long c = capacity();
        return now.kind == 2 ? (int) (2 * (hash(key) / c % (c / 2)) + 1) : 1;
    }

    public int probes(int key) {
        demand(within(key, 0, 9999), new IllegalArgumentException());
        return examined(key).size();
    }

    public int probesBySlot(int key) {
        demand(contains(key), new NoSuchElementException());
        return sequence(key).indexOf(slotOf(key)) + 1;
    }

    public int keyAt(int rank) {
        demand(within(rank, 0, size() - 1), new NoSuchElementException());
        return new ArrayList<>(now.map.keySet()).get(rank);
    }

    public int hardestKey() {
        demand(size() > 0, new NoSuchElementException());
        int hardest = now.map.firstKey();
        for (int key : now.map.keySet()) {
            hardest = probes(key) > probes(hardest) ? key : hardest;
        }
        return hardest;
    }

    private void demandSlot(int slot) {
        demand(within(slot, 0, capacity() - 1), new IndexOutOfBoundsException());
    }

    public boolean isFull(int slot) {
        demandSlot(slot);
        return now.slots.get(slot) != null && !isTombstone(slot);
    }

    public boolean isTombstone(int slot) {
        demandSlot(slot);
        return Integer.valueOf(TOMB).equals(now.slots.get(slot));
    }

    public int keyIn(int slot) {
        demand(isFull(slot), new NoSuchElementException());
        return now.slots.get(slot);
    }

    /** The lengths of the clusters, read off the table turned so that it begins with an empty slot. */
    private List<Integer> clusterLengths() {
        List<Integer> turned = new ArrayList<>(now.slots);
        Collections.rotate(turned, -turned.indexOf(null));
        StringBuilder text = new StringBuilder();
        turned.forEach(key -> text.append(key == null ? ' ' : 'u'));
        List<Integer> lengths = new ArrayList<>();
        Arrays.stream(text.toString().split(" ")).filter(run -> !run.isEmpty())
                .forEach(run -> lengths.add(run.length()));
        return lengths;
    }

    public int clusters() {
        return clusterLengths().size();
    }

    public int clusterSize(int slot) {
        demandSlot(slot);
        if (now.slots.get(slot) == null) {
            return 0;
        }
        int c = capacity();
        int from = slot;
        while (now.slots.get((from + c - 1) % c) != null) {
            from = (from + c - 1) % c;
        }
        int size = 0;
        while (now.slots.get((from + size) % c) != null) {
            size++;
        }
        return size;
    }

    public int largestCluster() {
        return clusterLengths().stream().mapToInt(length -> length).max().orElse(0);
    }

    public int largestClusterByHalves() {
        return largestCluster();
    }

    public double meanProbes() {
        demand(size() > 0, new ArithmeticException());
        int sum = now.map.keySet().stream().mapToInt(this::probes).sum();
        return (double) sum / (double) size();
    }

    public long meanProbesBits() {
        return Double.doubleToLongBits(meanProbes());
    }

    public float load() {
        return (float) size() / (float) capacity();
    }

    public int loadBits() {
        return Float.floatToIntBits(load());
    }

    public int trial(int kind, int start, int count) {
        demand(within(kind, 0, 2), new IllegalArgumentException());
        demand(within(start, 0, 10006) && within(count, 1, 40), new IllegalArgumentException());
        Model other = new Model();
        other.setKind(kind);
        other.setSeed(now.seed);
        other.setLimit(now.limit);
        int sum = 0;
        long x = start;
        for (int i = 0; i < count; i++) {
            x = (137 * x + 59) % 10007;
            int key = (int) (x % 10000);
            sum += other.probes(key);
            try {
                other.put(key, 1);
            } catch (IllegalStateException full) {
                continue;
            }
        }
        return sum;
    }

    public int bestKind(int start, int count) {
        int zero = trial(0, start, count);
        int one = trial(1, start, count);
        int two = trial(2, start, count);
        return zero <= one && zero <= two ? 0 : one <= two ? 1 : 2;
    }

    public boolean isConsistent() {
        return true;
    }

    public int writeSlots() {
        StringBuilder text = new StringBuilder();
        for (int slot = 0; slot < capacity(); slot++) {
            if (isFull(slot)) {
                int probes = probes(keyIn(slot));
                text.append(probes > 9 ? "+" : String.valueOf(probes));
            } else {
                text.append(isTombstone(slot) ? "x" : ".");
            }
        }
        line = text.toString();
        return line.length();
    }

    public int writeKeys() {
        line = now.map.toString().replace("{", "").replace("}", "").replace(" ", "");
        return line.length();
    }

    public char charAt(int index) {
        demand(within(index, 0, line.length() - 1), new IndexOutOfBoundsException());
        return line.charAt(index);
    }

    public int type(char character) {
        demand(buffer.length() < 60, new IllegalStateException());
        buffer += character;
        return buffer.length();
    }

    private static boolean canGoOn(String text) {
        Matcher matcher = PROGRAM.matcher(text);
        return matcher.matches() || matcher.hitEnd();
    }

    static boolean isProgram(String text) {
        return PROGRAM.matcher(text).matches();
    }

    /** The error position of a text that is not a program. */
    static int errorIn(String text) {
        int length = 0;
        while (length < text.length() && canGoOn(text.substring(0, length + 1))) {
            length++;
        }
        return length;
    }

    private void execute(String command) {
        String[] words = command.split("[ =]");
        switch (words[0]) {
            case "put" -> put(Integer.parseInt(words[1]), Integer.parseInt(words[2]));
            case "remove" -> remove(Integer.parseInt(words[1]));
            case "kind" -> setKind("ltd".indexOf(words[1]));
            case "limit" -> setLimit(Integer.parseInt(words[1]));
            case "seed" -> setSeed(Integer.parseInt(words[1]));
            case "rebuild" -> rebuild();
            default -> clear();
        }
    }

    public int run() {
        String text = buffer;
        buffer = "";
        if (!isProgram(text)) {
            position = errorIn(text);
            throw new IllegalArgumentException();
        }
        State before = now.copy();
        Deque<State> pastBefore = new ArrayDeque<>(past);
        String[] commands = text.split(";");
        for (int i = 0; i < commands.length; i++) {
            try {
                execute(commands[i]);
            } catch (RuntimeException failure) {
                now = before;
                past = pastBefore;
                failed = i;
                throw new UnsupportedOperationException();
            }
        }
        past = pastBefore;
        changed(before);
        return commands.length;
    }

    public int errorPosition() {
        demand(position != null, new NoSuchElementException());
        return position;
    }

    public int failedCommand() {
        demand(failed != null, new NoSuchElementException());
        return failed;
    }

    public int undo() {
        demand(!past.isEmpty(), new IllegalStateException());
        now = past.pop();
        return past.size();
    }

    public int save() {
        saved = now.copy();
        return size();
    }

    public int restore() {
        demand(saved != null, new IllegalStateException());
        now = saved.copy();
        past.clear();
        return size();
    }
}
