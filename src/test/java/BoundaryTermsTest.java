import java.util.NoSuchElementException;

/** Boundary cases of the section "Terms", sentence by sentence; clusters, programs and undo stand with their promises. */
final class BoundaryTermsTest {

    private static final Class<IllegalArgumentException> ARGUMENT = IllegalArgumentException.class;
    private static final Class<IndexOutOfBoundsException> INDEX = IndexOutOfBoundsException.class;
    private static final Class<NoSuchElementException> ELEMENT = NoSuchElementException.class;
    private static final Class<IllegalStateException> STATE = IllegalStateException.class;
    private static final int[] CAPACITIES = {8, 16, 32, 64};

    public static void main(String[] args) {
        theConditionThatIsListedFirst();
        divisionsAreRoundedDown();
        capacities();
        slotsAreNumberedFrom0();
        slotsAreEmptyOrFullOrTombstones();
        noKeyIsContainedTwice();
        tombstonesAreUsedSlots();
        hashesAtTheirLeastAndGreatest();
        homesAtTheirLeastAndGreatest();
        stepsAtTheirLeastAndGreatest();
        sequencesAreAsLongAsTheCapacity();
        sequencesGoAroundTheEnd();
        kindsAtTheirLeastAndGreatest();
        searchInAnEmptyTable();
        searchThatExaminesAllSlots();
        searchAroundTheEnd();
        searchOverTombstones();
        searchEndsAtTheFirstEmptySlot();
        insertionIntoTheFirstTombstone();
        insertionIntoTheEmptySlot();
        insertionInTheRebuiltTable();
        limitAtItsLeastAndGreatest();
        limitIsNotExceededWhenReached();
        rebuildingForPutWithTheSameCapacity();
        rebuildingForPutAtGreatestCapacity();
        keyThatCannotBePut();
        rebuildingInTheOrderOfSlots();
        rebuildingWithoutUsedSlots();
        theLastOf512Calls();
        Check.end();
    }

    private static void theConditionThatIsListedFirst() {
        Check.sentence("Terms", "If several conditions for an exception hold, the exception that is listed first is"
                + " thrown.");
        Labs.refused("2: key out of range, and no room", ARGUMENT, Labs::crowded, lab -> lab.put(10000, 0));
        Labs.refused("2: value out of range, and no room", ARGUMENT, Labs::crowded, lab -> lab.put(6, 1000));
        Labs.refused("21: key and index too small", ARGUMENT, Labs::busy, lab -> lab.probe(-1, -1));
        Labs.refused("21: key and index too great", ARGUMENT, Labs::busy, lab -> lab.probe(10000, 8));
        Labs.refused("29: no such slot, so it is not full", INDEX, HashLab::new, lab -> lab.keyIn(8));
        HashLab lab = new HashLab();
        Check.throwsExactly("45: a command would fail, but the text is no program", ARGUMENT,
                () -> Labs.run(lab, "limit 24;x"));
        Check.equal("46: the position of the error", lab.errorPosition(), 9);
        Check.throwsExactly("47: no command failed", ELEMENT, lab::failedCommand);
    }

    private static void divisionsAreRoundedDown() {
        Check.sentence("Terms", "All integer divisions are rounded down.");
        for (int capacity : CAPACITIES) {
            HashLab lab = Labs.emptyOf(capacity);
            lab.setKind(2);
            int last = Keys.stepping(capacity, capacity - 1, 1, 0);
            Check.equal("22: the greatest hash before the next step, of " + capacity, lab.step(last), 1);
            int first = Keys.stepping(capacity, 0, 3, 0);
            Check.equal("22: the least hash of the next step, of " + capacity, lab.step(first), 3);
        }
    }

    private static void capacities() {
        Check.sentence("Terms", "The capacity of the table is the number of its slots, which is 8, 16, 32 or 64, and"
                + " initially 8.");
        HashLab lab = new HashLab();
        Check.equal("10: initially", lab.capacity(), 8);
        lab.setLimit(25);
        int[] due = {8, 8, 16, 16, 32, 32, 32, 32, 64, 64, 64, 64, 64, 64, 64, 64};
        for (int index = 0; index < due.length; index++) {
            lab.put(index, 0);
            Check.equal("10: at the limit of 25 with " + (index + 1) + " keys", lab.capacity(), due[index]);
        }
        Check.throwsExactly("2: no capacity beyond 64", STATE, () -> lab.put(16, 0));
        Check.equal("10: after the refused key", lab.capacity(), 64);
    }

    private static void slotsAreNumberedFrom0() {
        Check.sentence("Terms", "The slots are numbered from 0.");
        for (int capacity : CAPACITIES) {
            HashLab lab = Labs.emptyOf(capacity);
            int first = Keys.at(capacity, 0, 0);
            int last = Keys.at(capacity, capacity - 1, 0);
            lab.put(first, 0);
            lab.put(last, 0);
            Check.equal("20: the first of " + capacity, lab.slotOf(first), 0);
            Check.equal("20: the last of " + capacity, lab.slotOf(last), capacity - 1);
            Check.equal("29: the first of " + capacity, lab.keyIn(0), first);
            Check.equal("29: the last of " + capacity, lab.keyIn(capacity - 1), last);
            Check.throwsExactly("29: ahead of the first of " + capacity, INDEX, () -> lab.keyIn(-1));
            Check.throwsExactly("29: behind the last of " + capacity, INDEX, () -> lab.keyIn(capacity));
        }
    }

    private static void slotsAreEmptyOrFullOrTombstones() {
        Check.sentence("Terms", "A slot is empty, or full, which means that it contains a key with its value, or a"
                + " tombstone.");
        HashLab lab = Labs.atHomes(0, 7);
        lab.remove(lab.keyIn(0));
        Check.equal("27, 28: the first a tombstone, the last full", Labs.state(lab), "8/0/0/90/0/0/1/1:x|||||||1=1|");
        Check.isFalse("27: a tombstone is not full", lab.isFull(0));
        Check.isFalse("28: a full slot is not a tombstone", lab.isTombstone(7));
        Check.isFalse("28: an empty slot is not a tombstone", lab.isTombstone(1));
    }

    private static void noKeyIsContainedTwice() {
        Check.sentence("Terms", "Keys are from 0 to 9999, values are from -999 to 999, and no key is contained twice.");
        HashLab lab = Labs.atHomes(0, 0);
        lab.remove(0);
        lab.put(8, 3);
        Check.equal("2: a key behind a tombstone at its home", Labs.state(lab), "8/0/0/90/0/0/1/1:x|8=3|||||||");
        lab.put(9999, 999);
        lab.put(0, -999);
        lab.put(9999, -999);
        lab.put(0, 999);
        Check.equal("2: least and greatest key and value", Labs.keys(lab), "0=999,8=3,9999=-999");
        Labs.refused("2: one below the least key", ARGUMENT, Labs::busy, busy -> busy.put(-1, 0));
        Labs.refused("2: one above the greatest key", ARGUMENT, Labs::busy, busy -> busy.put(10000, 0));
        Labs.refused("2: one below the least value", ARGUMENT, Labs::busy, busy -> busy.put(5, -1000));
        Labs.refused("2: one above the greatest value", ARGUMENT, Labs::busy, busy -> busy.put(5, 1000));
    }

    private static void tombstonesAreUsedSlots() {
        Check.sentence("Terms", "The used slots are the full slots and the tombstones.");
        HashLab lab = Labs.atHomes(0, 1, 2, 3, 4, 5, 6);
        Labs.buried(lab);
        Check.isTrue("17: seven tombstones alone exceed the limit with a new key", lab.isNearLimit());
        Check.equal("30: they are a cluster", lab.clusters(), 1);
        Check.equal("32: of seven slots", lab.largestCluster(), 7);
        lab.put(0, 0);
        Check.equal("2: rebuilt", Labs.state(lab), "8/0/0/90/1/0/1/0:0=0||||||||");
    }

    private static void hashesAtTheirLeastAndGreatest() {
        Check.sentence("Terms", "The hash of a key is (40503 key + 9973 seed) mod 65536, where the seed is a number from"
                + " 0 to 999, initially 0.");
        Check.equal("13: the seed at first", new HashLab().seed(), 0);
        for (int capacity : CAPACITIES) {
            HashLab lab = Labs.emptyOf(capacity);
            lab.setKind(2);
            for (int seed : new int[] {0, 1, 999}) {
                lab.setSeed(seed);
                for (int key : new int[] {0, 1, 9999}) {
                    String what = " key " + key + " seed " + seed + " capacity " + capacity;
                    Check.equal("21: home," + what, lab.probe(key, 0), Keys.home(key, seed, capacity));
                    Check.equal("22: step," + what, lab.step(key), Keys.step(key, seed, capacity));
                }
            }
        }
        HashLab eight = Labs.emptyOf(8);
        eight.setKind(2);
        Check.equal("21: home of key 0, which has the hash 0", eight.probe(0, 0), 0);
        Check.equal("21: home of key 9999, which has the hash 42553", eight.probe(9999, 0), 1);
        Check.equal("22: step of key 9999", eight.step(9999), 7);
        eight.setSeed(999);
        Check.equal("21: home of key 0 with seed 999, which has the hash 1555", eight.probe(0, 0), 3);
        Check.equal("21: home of key 9999 with seed 999, which has the hash 44108", eight.probe(9999, 0), 4);
        Check.equal("22: step of key 9999 with seed 999", eight.step(9999), 3);
    }

    private static void homesAtTheirLeastAndGreatest() {
        Check.sentence("Terms", "The home of a key is its hash mod the capacity.");
        for (int capacity : CAPACITIES) {
            HashLab lab = Labs.emptyOf(capacity);
            for (int kind = 0; kind < 3; kind++) {
                lab.setKind(kind);
                String what = " of " + capacity + ", kind " + kind;
                Check.equal("21: least" + what, lab.probe(Keys.at(capacity, 0, 3), 0), 0);
                Check.equal("21: greatest" + what, lab.probe(Keys.at(capacity, capacity - 1, 3), 0), capacity - 1);
                int key = Keys.at(capacity, capacity - 1, 4);
                lab.put(key, 0);
                Check.equal("20: where it is put" + what, lab.slotOf(key), capacity - 1);
                lab.remove(key);
            }
        }
    }

    private static void stepsAtTheirLeastAndGreatest() {
        Check.sentence("Terms", "The step of a key is 1 for linear and for triangular probing; for double hashing it is"
                + " 2 d + 1, where d is the hash divided by the capacity, mod half the capacity.");
        for (int capacity : CAPACITIES) {
            HashLab lab = Labs.emptyOf(capacity);
            int least = Keys.stepping(capacity, 0, 1, 1);
            int greatest = Keys.stepping(capacity, 0, capacity - 1, 0);
            for (int kind = 0; kind < 2; kind++) {
                lab.setKind(kind);
                Check.equal("22: kind " + kind + " of " + capacity, lab.step(greatest), 1);
            }
            lab.setKind(2);
            Check.equal("22: least of " + capacity, lab.step(least), 1);
            Check.equal("22: greatest of " + capacity, lab.step(greatest), capacity - 1);
        }
    }

    private static void sequencesAreAsLongAsTheCapacity() {
        Check.sentence("Terms", "The probe sequence of a key consists of as many slots as the capacity;");
        for (int capacity : CAPACITIES) {
            for (int kind = 0; kind < 3; kind++) {
                HashLab lab = Labs.emptyOf(capacity);
                lab.setKind(kind);
                for (int key : new int[] {0, 1, 9999}) {
                    long visited = 0;
                    for (int index = 0; index < capacity; index++) {
                        visited |= 1L << lab.probe(key, index);
                    }
                    String what = "key " + key + " of " + capacity + ", kind " + kind;
                    Check.equal("21, 40: all slots, " + what, Long.bitCount(visited), capacity);
                    Check.throwsExactly("21: no more, " + what, INDEX, () -> lab.probe(key, capacity));
                }
            }
        }
    }

    private static void sequencesGoAroundTheEnd() {
        Check.sentence("Terms", "the slot number i of it, counted from 0, is home + i step for linear probing and for"
                + " double hashing, and home + i (i + 1) / 2 for triangular probing, each mod the capacity.");
        Check.equal("21: linear, from the last slot", sequence(0, 8, Keys.at(8, 7, 0)), "7 0 1 2 3 4 5 6 ");
        Check.equal("21: triangular, from the last slot", sequence(1, 8, Keys.at(8, 7, 0)), "7 0 2 5 1 6 4 3 ");
        Check.equal("21: double, greatest step", sequence(2, 8, Keys.stepping(8, 0, 7, 0)), "0 7 6 5 4 3 2 1 ");
        Check.equal("21: double, least step", sequence(2, 8, Keys.stepping(8, 7, 1, 0)), "7 0 1 2 3 4 5 6 ");
        for (int capacity : CAPACITIES) {
            int key = Keys.stepping(capacity, capacity - 1, capacity - 1, 0);
            StringBuilder linear = new StringBuilder();
            StringBuilder triangular = new StringBuilder();
            StringBuilder twice = new StringBuilder();
            for (int i = 0; i < capacity; i++) {
                linear.append((capacity - 1 + i) % capacity).append(' ');
                triangular.append((capacity - 1 + i * (i + 1) / 2) % capacity).append(' ');
                twice.append(capacity - 1 - i).append(' ');
            }
            Check.equal("21: linear of " + capacity, sequence(0, capacity, key), linear.toString());
            Check.equal("21: triangular of " + capacity, sequence(1, capacity, key), triangular.toString());
            Check.equal("21: double of " + capacity, sequence(2, capacity, key), twice.toString());
        }
    }

    private static String sequence(int kind, int capacity, int key) {
        HashLab lab = Labs.emptyOf(capacity);
        lab.setKind(kind);
        StringBuilder text = new StringBuilder();
        for (int index = 0; index < capacity; index++) {
            text.append(lab.probe(key, index)).append(' ');
        }
        return text.toString();
    }

    private static void kindsAtTheirLeastAndGreatest() {
        Check.sentence("Terms", "The kind of probing is 0 for linear probing, 1 for triangular probing and 2 for double"
                + " hashing, initially 0.");
        HashLab lab = new HashLab();
        int key = Keys.stepping(8, 0, 5, 0);
        Check.equal("12: initially", lab.kind(), 0);
        Check.equal("21: initially", lab.probe(key, 2), 2);
        int[] due = {2, 3, 2 * 5 % 8};
        for (int kind = 2; kind >= 0; kind--) {
            lab.setKind(kind);
            Check.equal("12: kind " + kind, lab.kind(), kind);
            Check.equal("21: kind " + kind, lab.probe(key, 2), due[kind]);
            Check.equal("22: kind " + kind, lab.step(key), kind == 2 ? 5 : 1);
        }
        Labs.refused("5: one below the least", ARGUMENT, HashLab::new, other -> other.setKind(-1));
        Labs.refused("5: one above the greatest", ARGUMENT, HashLab::new, other -> other.setKind(3));
    }

    private static void searchInAnEmptyTable() {
        Check.sentence("Terms", "The number of probes of a search is the number of examined slots.");
        for (int capacity : CAPACITIES) {
            HashLab lab = Labs.emptyOf(capacity);
            Check.equal("23: the empty slot counts, of " + capacity, lab.probes(0), 1);
            lab.put(0, 0);
            Check.equal("23: the key's slot counts, of " + capacity, lab.probes(0), 1);
        }
    }

    private static void searchThatExaminesAllSlots() {
        Check.sentence("Terms", "A search for a key examines the slots of its probe sequence, one after the other, until"
                + " it finds the key, or until it has examined an empty slot.");
        int[] lastSlots = {7, 4, 1};
        for (int kind = 0; kind < 3; kind++) {
            HashLab lab = allButOne(kind, lastSlots[kind]);
            int absent = Keys.stepping(8, 0, 7, 9);
            Check.equal("23: the empty slot comes last, kind " + kind, lab.probes(absent), 8);
            int straight = Keys.at(8, lastSlots[kind], 9);
            Check.equal("23: the empty slot comes first, kind " + kind, lab.probes(straight), 1);
        }
        HashLab fullest = Labs.atHomes(0, 0, 0, 0, 0, 0, 0);
        Check.equal("23: the key in the last used slot", fullest.probes(Keys.at(8, 0, 6)), 7);
        Check.equal("23: a key that is not contained", fullest.probes(Keys.at(8, 0, 7)), 8);
    }

    /** Fills all slots of eight but one with keys that are at home there. */
    private static HashLab allButOne(int kind, int emptySlot) {
        HashLab lab = new HashLab();
        lab.setKind(kind);
        lab.setLimit(90);
        for (int slot = 0; slot < 8; slot++) {
            if (slot != emptySlot) {
                lab.put(Keys.at(8, slot, 0), 0);
            }
        }
        return lab;
    }

    private static void searchAroundTheEnd() {
        Check.sentence("Terms", "A search for a key examines the slots of its probe sequence (around the end)");
        for (int kind = 0; kind < 3; kind++) {
            HashLab lab = new HashLab();
            lab.setKind(kind);
            int first = Keys.stepping(8, 7, 1, 0);
            int second = Keys.stepping(8, 7, 1, 1);
            lab.put(first, 1);
            lab.put(second, 2);
            Check.equal("20: kind " + kind, lab.slotOf(second), 0);
            Check.equal("23: kind " + kind, lab.probes(second), 2);
            Check.equal("19: kind " + kind, lab.get(second), 2);
        }
        HashLab lab = allButOne(0, 6);
        Check.equal("23: from the last slot to the one ahead of it", lab.probes(Keys.at(8, 7, 5)), 8);
        HashLab large = Labs.emptyOf(64);
        Labs.putAll(large, Keys.atHomes(64, 63, 63, 63));
        Check.equal("23: the third from the last of 64", large.probes(Keys.at(64, 63, 2)), 3);
        Check.equal("20: it is in slot 1", large.slotOf(Keys.at(64, 63, 2)), 1);
    }

    private static void searchOverTombstones() {
        Check.sentence("Terms", "until it finds the key, or until it has examined an empty slot (not a tombstone)");
        HashLab lab = Labs.atHomes(0, 0, 0, 0, 0, 0, 0);
        for (int n = 0; n < 6; n++) {
            lab.remove(Keys.at(8, 0, n));
        }
        Check.equal("23: the key behind six tombstones", lab.probes(Keys.at(8, 0, 6)), 7);
        Check.isTrue("18: it is found", lab.contains(Keys.at(8, 0, 6)));
        lab.remove(Keys.at(8, 0, 6));
        Check.equal("23: seven tombstones and the empty slot", lab.probes(Keys.at(8, 0, 6)), 8);
        Check.isFalse("18: it is removed", lab.contains(Keys.at(8, 0, 6)));
    }

    private static void searchEndsAtTheFirstEmptySlot() {
        Check.sentence("Terms", "until it has examined an empty slot (used slots beyond it are not examined)");
        HashLab lab = Labs.atHomes(0, 2, 3, 4);
        Check.equal("23: an empty slot after the first", lab.probes(Keys.at(8, 0, 1)), 2);
        lab.remove(Keys.at(8, 2, 0));
        lab.put(Keys.at(8, 0, 1), 0);
        Check.equal("2: a tombstone beyond it is not used", lab.slotOf(Keys.at(8, 0, 1)), 1);
        Check.equal("11: it stays", lab.tombstones(), 1);
    }

    private static void insertionIntoTheFirstTombstone() {
        Check.sentence("Terms", "A new key is put into the first tombstone that a search for it examines,");
        for (int kind = 0; kind < 3; kind++) {
            int[] sequence = {0, kind == 2 ? 7 : 1, kind == 0 ? 2 : kind == 1 ? 3 : 6};
            for (int buried = 1; buried < 8; buried++) {
                HashLab lab = new HashLab();
                lab.setKind(kind);
                int[] keys = new int[4];
                for (int n = 0; n < 4; n++) {
                    keys[n] = Keys.stepping(8, 0, 7, n);
                }
                Labs.putAll(lab, keys[0], keys[1], keys[2]);
                for (int n = 0; n < 3; n++) {
                    if ((buried >> n & 1) == 1) {
                        lab.remove(keys[n]);
                    }
                }
                int due = sequence[Integer.numberOfTrailingZeros(buried)];
                lab.put(keys[3], 0);
                Check.equal("2: kind " + kind + " tombstones " + buried, lab.slotOf(keys[3]), due);
                Check.equal("11: kind " + kind + " tombstones " + buried, lab.tombstones(),
                        Integer.bitCount(buried) - 1);
            }
        }
        HashLab around = Labs.atHomes(7, 0, 1);
        around.remove(Keys.at(8, 0, 0));
        around.put(Keys.at(8, 7, 1), 0);
        Check.equal("2: around the end", around.slotOf(Keys.at(8, 7, 1)), 0);
    }

    private static void insertionIntoTheEmptySlot() {
        Check.sentence("Terms", "or, if it examines none, into the empty slot with which the search ends.");
        for (int kind = 0; kind < 3; kind++) {
            int[] lastSlots = {6, 7, 2};
            HashLab lab = new HashLab();
            lab.setKind(kind);
            lab.setLimit(90);
            int[] used = kind == 0 ? Keys.range(0, 5) : kind == 1 ? new int[] {0, 1, 3, 6, 2}
                    : new int[] {0, 7, 6, 5, 4, 3};
            for (int slot : used) {
                lab.put(Keys.at(8, slot, 0), 0);
            }
            int key = Keys.stepping(8, 0, 7, 9);
            lab.put(key, 0);
            Check.equal("2: the last empty slots, kind " + kind, lab.slotOf(key), lastSlots[kind]);
        }
        HashLab around = Labs.atHomes(5, 6, 7, 5);
        Check.equal("2: around the end", around.slotOf(Keys.at(8, 5, 1)), 0);
        HashLab first = Labs.emptyOf(64);
        first.put(Keys.at(64, 63, 0), 0);
        Check.equal("2: an empty home", first.slotOf(Keys.at(64, 63, 0)), 63);
    }

    private static void insertionInTheRebuiltTable() {
        Check.sentence("Terms", "Before that, the load is checked; if the table is rebuilt by that, the search is made in"
                + " the rebuilt table.");
        HashLab grown = Labs.with(1, 2, 3, 4, 5);
        int key = Keys.at(16, 15, 0);
        grown.put(key, 0);
        Check.equal("2: a home that was not in the old table", grown.slotOf(key), 15);
        HashLab same = Labs.atHomes(0, 0, 0, 0, 0, 0, 0);
        Labs.buried(same);
        same.put(5, 0);
        Check.equal("2: the tombstone at its home is gone", Labs.state(same), "8/0/0/90/1/0/1/0:|||5=0|||||");
        HashLab behind = Labs.atHomes(1, 0, 0);
        behind.remove(Keys.at(8, 1, 0));
        behind.setLimit(37);
        behind.put(Keys.at(8, 1, 1), 0);
        Check.equal("2: a tombstone does not spare the rebuild", behind.rebuilds(), 1);
        Check.equal("11: nor is it left", behind.tombstones(), 0);
    }

    private static void limitAtItsLeastAndGreatest() {
        Check.sentence("Terms", "The load limit is a percentage from 25 to 90, initially 70.");
        HashLab lab = new HashLab();
        Check.equal("14: initially", lab.limit(), 70);
        Labs.putAll(lab, 1, 2, 3, 4, 5);
        Check.equal("10: five of eight are 62.5 percent", lab.capacity(), 8);
        lab.put(6, 0);
        Check.equal("10: six of eight are 75 percent", lab.capacity(), 16);
        lab.setLimit(25);
        Check.equal("14: the least", lab.limit(), 25);
        lab.setLimit(90);
        Check.equal("14: the greatest", lab.limit(), 90);
        Labs.refused("7: one below the least", ARGUMENT, HashLab::new, other -> other.setLimit(24));
        Labs.refused("7: one above the greatest", ARGUMENT, HashLab::new, other -> other.setLimit(91));
    }

    private static void limitIsNotExceededWhenReached() {
        Check.sentence("Terms", "A number u of slots exceeds the limit for a capacity c if 100 u is greater than the"
                + " limit multiplied by c.");
        int[][] most = {{25, 2}, {37, 2}, {38, 3}, {49, 3}, {50, 4}, {62, 4}, {63, 5}, {70, 5}, {74, 5}, {75, 6}, {87, 6},
            {88, 7}, {90, 7}};
        for (int[] pair : most) {
            HashLab lab = new HashLab();
            lab.setLimit(pair[0]);
            for (int key = 0; key < pair[1]; key++) {
                Check.isFalse("17: limit " + pair[0] + " with " + key + " keys", lab.isNearLimit());
                lab.put(key, 0);
            }
            Check.equal("10: limit " + pair[0] + " just reached", lab.capacity(), 8);
            Check.isTrue("17: limit " + pair[0] + " just reached", lab.isNearLimit());
            lab.put(pair[1], 0);
            Check.equal("10: limit " + pair[0] + " exceeded", lab.capacity(), 16);
        }
        int[][] mostOf64 = {{25, 16}, {26, 16}, {50, 32}, {51, 32}, {70, 44}, {75, 48}, {89, 56}, {90, 57}};
        for (int[] pair : mostOf64) {
            HashLab lab = Labs.emptyOf(64);
            lab.setLimit(pair[0]);
            for (int key = 0; key < pair[1]; key++) {
                lab.put(key, 0);
            }
            Check.equal("15: limit " + pair[0] + " just reached at 64", lab.rebuilds(), 4);
            Check.throwsExactly("2: limit " + pair[0] + " exceeded at 64", STATE, () -> lab.put(pair[1], 0));
        }
    }

    private static void rebuildingForPutWithTheSameCapacity() {
        Check.sentence("Terms", "the table is rebuilt: with the same capacity, if twice the number of full slots plus 1,"
                + " that is 2 (f + 1) for f full slots, does not exceed the limit for the capacity, and otherwise with"
                + " twice the capacity, but with at most 64 slots.");
        int[][] cases = {{50, 4, 1, 8}, {50, 4, 2, 16}, {49, 3, 0, 8}, {49, 3, 1, 16}, {75, 6, 2, 8}, {75, 6, 3, 16},
            {90, 7, 2, 8}, {90, 7, 3, 16}, {90, 7, 0, 8}, {25, 2, 0, 8}, {25, 2, 1, 16}};
        for (int[] numbers : cases) {
            HashLab lab = new HashLab();
            lab.setLimit(numbers[0]);
            for (int key = 0; key < numbers[1]; key++) {
                lab.put(key, 0);
            }
            for (int key = numbers[2]; key < numbers[1]; key++) {
                lab.remove(key);
            }
            lab.put(100, 0);
            String what = "limit " + numbers[0] + ", " + numbers[2] + " of " + numbers[1] + " used slots full";
            Check.equal("10: " + what, lab.capacity(), numbers[3]);
            Check.equal("15: " + what, lab.rebuilds(), 1);
            Check.equal("16: " + what, lab.growths(), numbers[3] == 8 ? 0 : 1);
            Check.equal("11: " + what, lab.tombstones(), 0);
            Check.equal("9: " + what, lab.size(), numbers[2] + 1);
        }
    }

    private static void rebuildingForPutAtGreatestCapacity() {
        Check.sentence("Terms", "and otherwise with twice the capacity, but with at most 64 slots.");
        for (int full : new int[] {0, 27, 28, 56}) {
            HashLab lab = Labs.fullest();
            for (int key = full; key < 57; key++) {
                lab.remove(key);
            }
            Check.isTrue("2: a new key with " + full + " of 57 used slots full", lab.put(100, 0));
            Check.equal("10: with " + full, lab.capacity(), 64);
            Check.equal("15: with " + full, lab.rebuilds(), 4);
            Check.equal("16: with " + full, lab.growths(), 3);
            Check.equal("11: with " + full, lab.tombstones(), 0);
        }
        HashLab half = Labs.emptyOf(32);
        for (int key = 0; key < 29; key++) {
            half.put(key, 0);
        }
        Check.equal("10: from 32", half.capacity(), 64);
    }

    private static void keyThatCannotBePut() {
        Check.sentence("Terms", "If f + 1 exceeds the limit for the capacity of the rebuilt table, the key cannot be"
                + " put.");
        HashLab just = new HashLab();
        Labs.putAll(just, 1, 2, 3);
        just.setLimit(25);
        Check.isTrue("2: 4 of 16 at the limit of 25", just.put(4, 0));
        Check.equal("10: grown", just.capacity(), 16);
        Labs.refused("2: 5 of 16 at the limit of 25", STATE, () -> {
            HashLab lab = Labs.with(1, 2, 3, 4);
            lab.setLimit(25);
            return lab;
        }, lab -> lab.put(5, 0));
        Labs.refused("2: 5 of 16 at the limit of 31", STATE, () -> {
            HashLab lab = Labs.with(1, 2, 3, 4);
            lab.setLimit(31);
            return lab;
        }, lab -> lab.put(5, 0));
        HashLab above = Labs.with(1, 2, 3, 4);
        above.setLimit(32);
        Check.isTrue("2: 5 of 16 at the limit of 32", above.put(5, 0));
        HashLab fullest = Labs.fullest();
        String state = Labs.state(fullest);
        Check.throwsExactly("2: 58 of 64 at the limit of 90", STATE, () -> fullest.put(57, 0));
        Check.equal("2: nothing changed at 64", Labs.state(fullest), state);
        HashLab lowered = Labs.fullest();
        for (int key = 16; key < 57; key++) {
            lowered.remove(key);
        }
        lowered.setLimit(25);
        Check.throwsExactly("2: 17 of 64 at the limit of 25", STATE, () -> lowered.put(57, 0));
        lowered.remove(0);
        Check.isTrue("2: 16 of 64 at the limit of 25", lowered.put(57, 0));
    }

    private static void rebuildingInTheOrderOfSlots() {
        Check.sentence("Terms", "When a table is rebuilt, its keys are put one after the other, in the order of their"
                + " slots in the old table, into a table without used slots.");
        int[] keys = Keys.atHomes(8, 7, 7, 7);
        HashLab lab = Labs.atHomes(7, 7, 7);
        lab.rebuild();
        Check.equal("4: a cluster around the end is turned by one", lab.slotOf(keys[0]), 1);
        Check.equal("4: slot 0 comes first", lab.slotOf(keys[1]), 7);
        Check.equal("4: slot 1 comes second", lab.slotOf(keys[2]), 0);
        HashLab grown = Labs.with(Keys.at(16, 3, 1), Keys.at(16, 3, 0), Keys.at(16, 15, 1), Keys.at(16, 15, 0),
                Keys.at(16, 15, 2));
        Check.equal("2: before it grows", Labs.state(grown), "8/0/0/70/0/0/5/0:9=9|41=41||21=21|5=5|||25=25|");
        grown.put(Keys.at(16, 8, 0), 0);
        Check.equal("2: the last slot of 8 goes ahead of slot 0 no more", grown.slotOf(Keys.at(16, 15, 0)), 15);
        Check.equal("2: around the end of 16", grown.slotOf(Keys.at(16, 15, 2)), 0);
        Check.equal("2: and beyond", grown.slotOf(Keys.at(16, 15, 1)), 1);
        Check.equal("2: slot 3 before slot 4", grown.slotOf(Keys.at(16, 3, 1)), 3);
    }

    private static void rebuildingWithoutUsedSlots() {
        Check.sentence("Terms", "into a table without used slots");
        HashLab empty = new HashLab();
        Check.equal("4: an empty table", empty.rebuild(), 0);
        Check.equal("4: it stays empty", Labs.state(empty), "8/0/0/70/1/0/0/0:||||||||");
        HashLab buried = Labs.buried(Labs.atHomes(0, 1, 2, 3, 4, 5, 7));
        Check.equal("4: tombstones alone", buried.rebuild(), 7);
        Check.equal("4: they are gone", Labs.state(buried), "8/0/0/90/1/0/0/0:||||||||");
        HashLab both = Labs.atHomes(0, 0, 0);
        both.remove(Keys.at(8, 0, 0));
        both.remove(Keys.at(8, 0, 1));
        both.rebuild();
        Check.equal("4: the last key goes home", both.slotOf(Keys.at(8, 0, 2)), 0);
    }

    private static void theLastOf512Calls() {
        Check.sentence("What it is", "An object is used for at most 512 calls after it has been made; what later calls"
                + " answer is free.");
        HashLab rebuilt = new HashLab();
        for (int call = 1; call <= 511; call++) {
            rebuilt.rebuild();
        }
        Check.equal("15: 511 rebuilds, and the last call", rebuilt.rebuilds(), 511);
        HashLab grown = new HashLab();
        grown.setLimit(25);
        for (int call = 2; call <= 505; call += 4) {
            grown.put(1, 1);
            grown.put(2, 2);
            grown.put(3, 3);
            grown.clear();
        }
        for (int call = 506; call <= 510; call++) {
            grown.undo();
        }
        Check.equal("48: five of the eight latest changes undone, and one more", grown.undo(), 2);
        Check.equal("16: 126 growths, of which two are undone, and the last call", grown.growths(), 124);
        HashLab put = new HashLab();
        for (int call = 1; call <= 511; call += 2) {
            Check.isTrue("2: put in call " + call, put.put(call, 1));
            if (call < 511) {
                Check.equal("3: remove in call " + (call + 1), put.remove(call), 1);
            }
        }
        Check.equal("18: the last key, in the last call", put.contains(511), true);
    }
}
