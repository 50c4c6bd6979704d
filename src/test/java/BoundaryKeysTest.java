import java.util.NoSuchElementException;
import java.util.function.Supplier;

/** Boundary cases of promises 18 to 26, sentence by sentence. */
final class BoundaryKeysTest {

    private static final Class<IllegalArgumentException> ARGUMENT = IllegalArgumentException.class;
    private static final Class<NoSuchElementException> ELEMENT = NoSuchElementException.class;
    private static final Class<IndexOutOfBoundsException> INDEX = IndexOutOfBoundsException.class;
    private static final int[] NO_KEYS = {-1, -2, 10000, Integer.MIN_VALUE, Integer.MAX_VALUE};
    private static final int[] ABSENT = {2, 4, 9999, -1, -2, 10000, Integer.MIN_VALUE, Integer.MAX_VALUE};

    public static void main(String[] args) {
        promise18AnyInteger();
        promise18Contained();
        promise19Value();
        promise19NotContained();
        promise20Slot();
        promise20NotContained();
        promise21LeastAndGreatest();
        promise21KeyOutOfRange();
        promise21IndexOutOfRange();
        promise22LeastAndGreatest();
        promise22KeyOutOfRange();
        promise23NeedNotBeContained();
        promise23MostProbes();
        promise23KeyOutOfRange();
        promise24MostProbes();
        promise24AroundTheEnd();
        promise24NotContained();
        promise25LeastAndGreatestRank();
        promise25SortedNotBySlot();
        promise25NoSuchRank();
        promise26SmallestOfSeveral();
        promise26OneKey();
        promise26NoKeys();
        promises18To26ChangeNothing();
        Check.end();
    }

    private static HashLab graves() {
        return Labs.buried(Labs.atHomes(0, 1, 2, 3, 4, 5, 6));
    }

    private static void promise18AnyInteger() {
        Check.sentence("18", "`key`: the key, any integer");
        for (int key : ABSENT) {
            Check.isFalse("among keys, key " + key, Labs.busy().contains(key));
            Check.isFalse("in an empty table, key " + key, new HashLab().contains(key));
            Check.isFalse("among tombstones, key " + key, graves().contains(key));
        }
        for (int key : NO_KEYS) {
            Check.isFalse("in the fullest table, key " + key, Labs.fullest().contains(key));
        }
    }

    private static void promise18Contained() {
        Check.sentence("18", "Returns true if it is contained.");
        HashLab lab = new HashLab();
        lab.put(0, 0);
        Check.isTrue("the least", lab.contains(0));
        lab.put(9999, 0);
        Check.isTrue("the greatest", lab.contains(9999));
        lab.remove(0);
        Check.isFalse("removed", lab.contains(0));
        lab.undo();
        Check.isTrue("the removal undone", lab.contains(0));
        HashLab around = Labs.atHomes(7, 7, 7);
        around.remove(Keys.at(8, 7, 0));
        Check.isTrue("around the end, behind a tombstone", around.contains(Keys.at(8, 7, 2)));
        HashLab fullest = Labs.fullest();
        int found = 0;
        for (int key = 0; key < 60; key++) {
            found += fullest.contains(key) ? 1 : 0;
        }
        Check.equal("all of 57", found, 57);
    }

    private static void promise19Value() {
        Check.sentence("19", "Returns the value of a key.");
        HashLab lab = new HashLab();
        int[] values = {-999, -1, 0, 1, 999};
        int[] keys = Keys.atHomes(8, 7, 7, 7, 7, 7);
        for (int index = 0; index < values.length; index++) {
            lab.put(keys[index], values[index]);
        }
        for (int index = 0; index < values.length; index++) {
            Check.equal("around the end, value " + values[index], lab.get(keys[index]), values[index]);
        }
        lab.put(9999, 998);
        Check.equal("of the greatest key, in a grown table", lab.get(9999), 998);
        for (int index = 0; index < values.length; index++) {
            Check.equal("rebuilt, value " + values[index], lab.get(keys[index]), values[index]);
        }
    }

    private static void promise19NotContained() {
        Check.sentence("19", "Throws `NoSuchElementException` if the key is not contained");
        for (int key : ABSENT) {
            Labs.refused("key " + key, ELEMENT, Labs::busy, lab -> lab.get(key));
            Check.throwsExactly("in an empty table, key " + key, ELEMENT, () -> new HashLab().get(key));
            Check.throwsExactly("among tombstones, key " + key, ELEMENT, () -> graves().get(key));
        }
    }

    private static void promise20Slot() {
        Check.sentence("20", "Returns the slot of a key.");
        HashLab lab = Labs.atHomes(6, 6, 6, 6, 0);
        int[] due = {6, 7, 0, 1};
        for (int n = 0; n < due.length; n++) {
            Check.equal("around the end " + n, lab.slotOf(Keys.at(8, 6, n)), due[n]);
        }
        Check.equal("pushed on by it", lab.slotOf(Keys.at(8, 0, 0)), 2);
        HashLab large = Labs.emptyOf(64);
        large.put(Keys.at(64, 63, 0), 0);
        large.put(Keys.at(64, 63, 1), 0);
        Check.equal("last of 64", large.slotOf(Keys.at(64, 63, 0)), 63);
        Check.equal("around the end of 64", large.slotOf(Keys.at(64, 63, 1)), 0);
    }

    private static void promise20NotContained() {
        Check.sentence("20", "Throws `NoSuchElementException` if the key is not contained");
        for (int key : ABSENT) {
            Labs.refused("key " + key, ELEMENT, Labs::busy, lab -> lab.slotOf(key));
            Check.throwsExactly("in an empty table, key " + key, ELEMENT, () -> new HashLab().slotOf(key));
            Check.throwsExactly("among tombstones, key " + key, ELEMENT, () -> graves().slotOf(key));
        }
    }

    private static void promise21LeastAndGreatest() {
        Check.sentence("21", "`key`: the key, 0 to 9999; `index`: the index in the sequence, counted from 0");
        HashLab lab = new HashLab();
        Check.equal("least key and index", lab.probe(0, 0), 0);
        Check.equal("least key, greatest index", lab.probe(0, 7), 7);
        Check.equal("greatest key, least index", lab.probe(9999, 0), 1);
        Check.equal("greatest key and index", lab.probe(9999, 7), 0);
        for (int capacity : new int[] {16, 32, 64}) {
            HashLab larger = Labs.emptyOf(capacity);
            Check.equal("greatest index of " + capacity, larger.probe(0, capacity - 1), capacity - 1);
            larger.setKind(1);
            Check.equal("triangular, greatest index of " + capacity, larger.probe(0, capacity - 1), capacity / 2);
            larger.setKind(2);
            int key = Keys.stepping(capacity, 0, capacity - 1, 0);
            Check.equal("double, greatest index and step of " + capacity, larger.probe(key, capacity - 1), 1);
        }
    }

    private static void promise21KeyOutOfRange() {
        Check.sentence("21", "Throws `IllegalArgumentException` if the key is out of range");
        for (int key : NO_KEYS) {
            Labs.refused("key " + key, ARGUMENT, Labs::busy, lab -> lab.probe(key, 0));
            Labs.refused("greatest index, key " + key, ARGUMENT, Labs::busy, lab -> lab.probe(key, 7));
        }
    }

    private static void promise21IndexOutOfRange() {
        Check.sentence("21", "Throws `IndexOutOfBoundsException` if the index is negative or not less than the capacity");
        for (int index : new int[] {-1, 8, Integer.MIN_VALUE, Integer.MAX_VALUE}) {
            Labs.refused("index " + index, INDEX, Labs::busy, lab -> lab.probe(1, index));
            Labs.refused("of a key not contained, index " + index, INDEX, Labs::busy, lab -> lab.probe(9999, index));
        }
        for (int capacity : new int[] {8, 16, 32, 64}) {
            HashLab lab = Labs.emptyOf(capacity);
            Check.throwsExactly("the capacity " + capacity, INDEX, () -> lab.probe(0, capacity));
            Check.throwsExactly("-1 of " + capacity, INDEX, () -> lab.probe(0, -1));
        }
        HashLab cleared = Labs.emptyOf(64);
        cleared.clear();
        Check.throwsExactly("8, once cleared", INDEX, () -> cleared.probe(0, 8));
    }

    private static void promise22LeastAndGreatest() {
        Check.sentence("22", "Returns the step of a key.");
        for (int kind = 0; kind < 2; kind++) {
            HashLab lab = new HashLab();
            lab.setKind(kind);
            Check.equal("kind " + kind + ", least key", lab.step(0), 1);
            Check.equal("kind " + kind + ", greatest key", lab.step(9999), 1);
        }
        int[] capacities = {8, 16, 32, 64};
        int[] due = {7, 7, 3, 49};
        for (int index = 0; index < due.length; index++) {
            HashLab lab = Labs.emptyOf(capacities[index]);
            lab.setKind(2);
            Check.equal("double, least key, of " + capacities[index], lab.step(0), 1);
            Check.equal("double, greatest key, of " + capacities[index], lab.step(9999), due[index]);
        }
    }

    private static void promise22KeyOutOfRange() {
        Check.sentence("22", "Throws `IllegalArgumentException` if the key is out of range");
        for (int key : NO_KEYS) {
            Labs.refused("double hashing, key " + key, ARGUMENT, Labs::busy, lab -> lab.step(key));
            Labs.refused("linear probing, key " + key, ARGUMENT, HashLab::new, lab -> lab.step(key));
        }
    }

    private static void promise23NeedNotBeContained() {
        Check.sentence("23", "Returns the number of probes of a search for a key, which need not be contained, by"
                + " searching.");
        HashLab lab = Labs.atHomes(0, 0);
        Check.equal("contained at its home", lab.probes(Keys.at(8, 0, 0)), 1);
        Check.equal("contained behind it", lab.probes(Keys.at(8, 0, 1)), 2);
        Check.equal("not contained", lab.probes(Keys.at(8, 0, 2)), 3);
        Check.equal("not contained, at home in a full slot", lab.probes(Keys.at(8, 1, 0)), 2);
        Check.equal("not contained, at home in an empty slot", lab.probes(Keys.at(8, 2, 0)), 1);
        Check.equal("not contained, at home in the last slot", lab.probes(Keys.at(8, 7, 0)), 1);
        lab.remove(Keys.at(8, 0, 0));
        Check.equal("removed", lab.probes(Keys.at(8, 0, 0)), 3);
        Check.equal("behind a tombstone", lab.probes(Keys.at(8, 0, 1)), 2);
    }

    private static void promise23MostProbes() {
        Check.sentence("23", "Returns the number of probes. (of the longest searches)");
        HashLab lab = new HashLab();
        lab.setLimit(90);
        for (int n = 0; n < 57; n++) {
            lab.put(64 * n, 0);
        }
        Check.equal("the last of 57 in one cluster", lab.probes(64 * 56), 57);
        Check.equal("one that is not contained", lab.probes(64 * 57), 58);
        Check.equal("one at home in the last of them", lab.probes(Keys.at(64, 56, 0)), 2);
        Labs.buried(lab);
        Check.equal("over 57 tombstones", lab.probes(0), 58);
    }

    private static void promise23KeyOutOfRange() {
        Check.sentence("23", "Throws `IllegalArgumentException` if the key is out of range");
        for (int key : NO_KEYS) {
            Labs.refused("key " + key, ARGUMENT, Labs::busy, lab -> lab.probes(key));
            Labs.refused("in an empty table, key " + key, ARGUMENT, HashLab::new, lab -> lab.probes(key));
        }
        Check.equal("the least", new HashLab().probes(0), 1);
        Check.equal("the greatest", new HashLab().probes(9999), 1);
    }

    private static void promise24MostProbes() {
        Check.sentence("24", "Returns the number of probes of a search for a contained key, computed from its slot, its"
                + " home and its step.");
        for (int kind = 0; kind < 3; kind++) {
            HashLab lab = new HashLab();
            lab.setKind(kind);
            lab.setLimit(90);
            for (int n = 0; n < 7; n++) {
                lab.put(Keys.stepping(8, 7, 7, n), 0);
            }
            for (int n = 0; n < 7; n++) {
                Check.equal("kind " + kind + ", number " + n, lab.probesBySlot(Keys.stepping(8, 7, 7, n)), n + 1);
            }
        }
        for (int kind = 0; kind < 2; kind++) {
            HashLab lab = new HashLab();
            lab.setLimit(90);
            lab.setKind(kind);
            for (int n = 0; n < 57; n++) {
                lab.put(64 * n, 0);
            }
            Check.equal("kind " + kind + ", the hardest of 57", lab.probesBySlot(lab.hardestKey()), 57);
        }
    }

    private static void promise24AroundTheEnd() {
        Check.sentence("24", "computed from its slot, its home and its step (around the end)");
        for (int capacity : new int[] {8, 16, 32, 64}) {
            for (int kind = 0; kind < 3; kind++) {
                HashLab lab = Labs.emptyOf(capacity);
                lab.setKind(kind);
                int first = Keys.stepping(capacity, capacity - 1, 3, 0);
                int second = Keys.stepping(capacity, capacity - 1, 3, 1);
                lab.put(first, 0);
                lab.put(second, 0);
                lab.remove(first);
                String what = "kind " + kind + " of " + capacity;
                Check.equal(what + ", slot", lab.slotOf(second), kind == 2 ? 2 : 0);
                Check.equal(what + ", behind a tombstone", lab.probesBySlot(second), 2);
            }
        }
    }

    private static void promise24NotContained() {
        Check.sentence("24", "Throws `NoSuchElementException` if the key is not contained");
        for (int key : ABSENT) {
            Labs.refused("key " + key, ELEMENT, Labs::busy, lab -> lab.probesBySlot(key));
            Check.throwsExactly("in an empty table, key " + key, ELEMENT, () -> new HashLab().probesBySlot(key));
            Check.throwsExactly("among tombstones, key " + key, ELEMENT, () -> graves().probesBySlot(key));
        }
    }

    private static void promise25LeastAndGreatestRank() {
        Check.sentence("25", "`rank`: the rank, counted from 0");
        HashLab lab = new HashLab();
        lab.put(9999, 0);
        Check.equal("of one key", lab.keyAt(0), 9999);
        lab.put(0, 0);
        Check.equal("the least", lab.keyAt(0), 0);
        Check.equal("the greatest", lab.keyAt(1), 9999);
        HashLab fullest = Labs.fullest();
        for (int rank = 0; rank < 57; rank++) {
            Check.equal("rank " + rank + " of 57", fullest.keyAt(rank), rank);
        }
        Check.throwsExactly("rank 57 of 57", ELEMENT, () -> fullest.keyAt(57));
    }

    private static void promise25SortedNotBySlot() {
        Check.sentence("25", "Returns the key at a rank when the keys are sorted in ascending order.");
        HashLab lab = Labs.atHomes(7, 7, 7, 0, 4);
        lab.remove(Keys.at(8, 7, 1));
        int[] sorted = {0, 1, 4, 17};
        for (int rank = 0; rank < sorted.length; rank++) {
            Check.equal("a cluster around the end, rank " + rank, lab.keyAt(rank), sorted[rank]);
        }
    }

    private static void promise25NoSuchRank() {
        Check.sentence("25", "Throws `NoSuchElementException` if there is no such rank");
        for (int rank : new int[] {-1, 2, 3, 8, Integer.MIN_VALUE, Integer.MAX_VALUE}) {
            Labs.refused("rank " + rank + " of two", ELEMENT, Labs::busy, lab -> lab.keyAt(rank));
            Labs.refused("in an empty table, rank " + rank, ELEMENT, HashLab::new, lab -> lab.keyAt(rank));
        }
        Labs.refused("in an empty table", ELEMENT, HashLab::new, lab -> lab.keyAt(0));
        Labs.refused("among tombstones", ELEMENT, BoundaryKeysTest::graves, lab -> lab.keyAt(0));
    }

    private static void promise26SmallestOfSeveral() {
        Check.sentence("26", "Returns the key with the greatest number of probes, and of several the smallest one.");
        HashLab one = Labs.atHomes(0, 1, 2, 3, 4, 5, 6);
        Check.equal("all with one probe", one.hardestKey(), 0);
        Check.equal("both with one probe, the smaller in the last slot", Labs.with(12, 1).hardestKey(), 1);
        HashLab ascending = Labs.atHomes(0, 0, 4, 4);
        Check.equal("two with two probes", ascending.hardestKey(), Math.min(Keys.at(8, 0, 1), Keys.at(8, 4, 1)));
        HashLab around = new HashLab();
        Labs.putAll(around, 9, 1, 12, 4);
        Check.equal("the smaller around the end, in the first slot", around.hardestKey(), 1);
        HashLab last = new HashLab();
        Labs.putAll(last, 8, 16, 2, 10);
        Check.equal("the smaller in the last slot", last.hardestKey(), 10);
        HashLab great = new HashLab();
        Labs.putAll(great, 1, 9999 / 8 * 8 + 1, 4);
        Check.equal("the only one with two probes is the greatest", great.hardestKey(), 9993);
    }

    private static void promise26OneKey() {
        Check.sentence("26", "Returns the key.");
        for (int key : new int[] {0, 9999}) {
            HashLab lab = Labs.with(key);
            Check.equal("the only one", lab.hardestKey(), key);
        }
        HashLab longest = new HashLab();
        longest.setLimit(90);
        for (int n = 56; n >= 0; n--) {
            longest.put(64 * n, 0);
        }
        longest.rebuild();
        int hardest = longest.hardestKey();
        Check.equal("the last of 57", longest.probes(hardest), 57);
    }

    private static void promise26NoKeys() {
        Check.sentence("26", "Throws `NoSuchElementException` if there are no keys");
        Labs.refused("an empty table", ELEMENT, HashLab::new, HashLab::hardestKey);
        Labs.refused("tombstones alone", ELEMENT, BoundaryKeysTest::graves, HashLab::hardestKey);
        Labs.refused("a cleared table", ELEMENT, () -> {
            HashLab lab = Labs.busy();
            lab.clear();
            return lab;
        }, HashLab::hardestKey);
    }

    private static void promises18To26ChangeNothing() {
        Check.sentence("18 to 26", "Nothing is promised beyond the answers and state changes described above");
        Supplier<HashLab> busy = Labs::busy;
        Labs.changesNothing("contains", busy, lab -> lab.contains(1));
        Labs.changesNothing("get", busy, lab -> lab.get(1));
        Labs.changesNothing("slotOf", busy, lab -> lab.slotOf(1));
        Labs.changesNothing("probe", busy, lab -> lab.probe(1, 7));
        Labs.changesNothing("step", busy, lab -> lab.step(1));
        Labs.changesNothing("probes", busy, lab -> lab.probes(1));
        Labs.changesNothing("probesBySlot", busy, lab -> lab.probesBySlot(1));
        Labs.changesNothing("keyAt", busy, lab -> lab.keyAt(1));
        Labs.changesNothing("hardestKey", busy, HashLab::hardestKey);
    }
}
