import java.util.NoSuchElementException;

/** Boundary cases of promises 27 to 33, sentence by sentence. */
final class BoundarySlotsTest {

    private static final Class<IndexOutOfBoundsException> INDEX = IndexOutOfBoundsException.class;
    private static final Class<NoSuchElementException> ELEMENT = NoSuchElementException.class;
    private static final int[] CAPACITIES = {8, 16, 32, 64};
    private static final int[] MOST_KEYS = {7, 14, 28, 57};
    private static final int[] NO_SLOTS = {-1, -2, 8, 63, 64, Integer.MIN_VALUE, Integer.MAX_VALUE};

    public static void main(String[] args) {
        promise27FirstAndLast();
        promise27NoSuchSlot();
        promise28FirstAndLast();
        promise28NoSuchSlot();
        promise29FirstAndLast();
        promise29NoSuchSlot();
        promise29NotFull();
        promise30LeastAndGreatest();
        promise30AroundTheEnd();
        promise30ThereIsAlwaysAnEmptySlot();
        promise31Sizes();
        promise31AroundTheEnd();
        promise31NoSuchSlot();
        promises32And33WithoutClusters();
        promises32And33LargestOfAll();
        promises32And33AroundTheEnd();
        promises32And33AcrossHalves();
        promises32And33OfSeveral();
        promises27To33ChangeNothing();
        Check.end();
    }

    /** Makes a table whose last slots, and as many first ones, are used: some full, the middle of them tombstones. */
    private static HashLab aroundTheEnd(int capacity, int slots) {
        HashLab lab = Labs.emptyOf(capacity);
        for (int n = 0; n < slots; n++) {
            lab.put(Keys.at(capacity, n, 0), 0);
            lab.put(Keys.at(capacity, capacity - 1 - n, 0), 0);
        }
        lab.remove(Keys.at(capacity, 0, 0));
        return lab;
    }

    private static void promise27FirstAndLast() {
        Check.sentence("27", "Returns true if it is full.");
        for (int capacity : CAPACITIES) {
            HashLab lab = Labs.emptyOf(capacity);
            Check.isFalse("first of " + capacity + ", empty", lab.isFull(0));
            Check.isFalse("last of " + capacity + ", empty", lab.isFull(capacity - 1));
            lab.put(Keys.at(capacity, 0, 0), 0);
            lab.put(Keys.at(capacity, capacity - 1, 0), 0);
            Check.isTrue("first of " + capacity, lab.isFull(0));
            Check.isTrue("last of " + capacity, lab.isFull(capacity - 1));
            lab.remove(Keys.at(capacity, 0, 0));
            lab.remove(Keys.at(capacity, capacity - 1, 0));
            Check.isFalse("first of " + capacity + ", a tombstone", lab.isFull(0));
            Check.isFalse("last of " + capacity + ", a tombstone", lab.isFull(capacity - 1));
        }
    }

    private static void promise27NoSuchSlot() {
        Check.sentence("27", "Throws `IndexOutOfBoundsException` if there is no such slot");
        for (int slot : NO_SLOTS) {
            Labs.refused("slot " + slot, INDEX, Labs::busy, lab -> lab.isFull(slot));
        }
        for (int capacity : CAPACITIES) {
            Check.throwsExactly("the capacity " + capacity, INDEX, () -> Labs.emptyOf(capacity).isFull(capacity));
        }
        HashLab cleared = Labs.fullest();
        cleared.clear();
        Check.throwsExactly("slot 8, once cleared", INDEX, () -> cleared.isFull(8));
    }

    private static void promise28FirstAndLast() {
        Check.sentence("28", "Returns true if it is a tombstone.");
        for (int capacity : CAPACITIES) {
            HashLab lab = Labs.emptyOf(capacity);
            Check.isFalse("first of " + capacity + ", empty", lab.isTombstone(0));
            Check.isFalse("last of " + capacity + ", empty", lab.isTombstone(capacity - 1));
            lab.put(Keys.at(capacity, 0, 0), 0);
            lab.put(Keys.at(capacity, capacity - 1, 0), 0);
            Check.isFalse("first of " + capacity + ", full", lab.isTombstone(0));
            Check.isFalse("last of " + capacity + ", full", lab.isTombstone(capacity - 1));
            lab.remove(Keys.at(capacity, 0, 0));
            lab.remove(Keys.at(capacity, capacity - 1, 0));
            Check.isTrue("first of " + capacity, lab.isTombstone(0));
            Check.isTrue("last of " + capacity, lab.isTombstone(capacity - 1));
            lab.put(Keys.at(capacity, capacity - 1, 0), 0);
            Check.isFalse("last of " + capacity + ", full again", lab.isTombstone(capacity - 1));
        }
    }

    private static void promise28NoSuchSlot() {
        Check.sentence("28", "Throws `IndexOutOfBoundsException` if there is no such slot");
        for (int slot : NO_SLOTS) {
            Labs.refused("slot " + slot, INDEX, Labs::busy, lab -> lab.isTombstone(slot));
        }
        for (int capacity : CAPACITIES) {
            Check.throwsExactly("the capacity " + capacity, INDEX, () -> Labs.emptyOf(capacity).isTombstone(capacity));
        }
        HashLab cleared = Labs.buried(Labs.fullest());
        cleared.clear();
        Check.throwsExactly("slot 8, once cleared", INDEX, () -> cleared.isTombstone(8));
    }

    private static void promise29FirstAndLast() {
        Check.sentence("29", "Returns the key in a slot.");
        for (int capacity : CAPACITIES) {
            HashLab lab = Labs.emptyOf(capacity);
            lab.put(0, 5);
            int last = Keys.at(capacity, capacity - 1, 1);
            lab.put(last, 5);
            Check.equal("the least key in the first of " + capacity, lab.keyIn(0), 0);
            Check.equal("last of " + capacity, lab.keyIn(capacity - 1), last);
        }
        HashLab lab = Labs.with(9999);
        Check.equal("the greatest key", lab.keyIn(1), 9999);
    }

    private static void promise29NoSuchSlot() {
        Check.sentence("29", "Throws `IndexOutOfBoundsException` if there is no such slot");
        for (int slot : NO_SLOTS) {
            Labs.refused("slot " + slot, INDEX, Labs::busy, lab -> lab.keyIn(slot));
            Labs.refused("in an empty table, slot " + slot, INDEX, HashLab::new, lab -> lab.keyIn(slot));
        }
        for (int capacity : CAPACITIES) {
            Check.throwsExactly("the capacity " + capacity, INDEX, () -> Labs.emptyOf(capacity).keyIn(capacity));
        }
    }

    private static void promise29NotFull() {
        Check.sentence("29", "Throws `NoSuchElementException` if the slot is not full");
        for (int slot : new int[] {0, 7}) {
            Labs.refused("an empty slot " + slot, ELEMENT, HashLab::new, lab -> lab.keyIn(slot));
            Labs.refused("a tombstone in slot " + slot, ELEMENT, () -> Labs.buried(Labs.atHomes(0, 7)),
                    lab -> lab.keyIn(slot));
        }
        for (int capacity : CAPACITIES) {
            HashLab lab = Labs.emptyOf(capacity);
            Check.throwsExactly("the last of " + capacity, ELEMENT, () -> lab.keyIn(capacity - 1));
        }
    }

    private static void promise30LeastAndGreatest() {
        Check.sentence("30", "Returns the number of clusters.");
        for (int index = 0; index < CAPACITIES.length; index++) {
            int capacity = CAPACITIES[index];
            HashLab lab = Labs.emptyOf(capacity);
            Check.equal("none in " + capacity, lab.clusters(), 0);
            lab.put(Keys.at(capacity, capacity - 1, 0), 0);
            Check.equal("one in the last of " + capacity, lab.clusters(), 1);
            lab.remove(Keys.at(capacity, capacity - 1, 0));
            Check.equal("a tombstone in the last of " + capacity, lab.clusters(), 1);
            HashLab every = Labs.emptyOf(capacity);
            for (int slot = 0; slot < capacity; slot += 2) {
                every.put(Keys.at(capacity, slot, 0), 0);
            }
            Check.equal("every other slot of " + capacity, every.clusters(), capacity / 2);
            HashLab most = Labs.emptyOf(capacity);
            for (int slot = 0; slot < MOST_KEYS[index]; slot++) {
                most.put(Keys.at(capacity, slot, 0), 0);
            }
            Check.equal("the most slots of " + capacity, most.clusters(), 1);
        }
    }

    private static void promise30AroundTheEnd() {
        Check.sentence("30", "A cluster is a maximal sequence of consecutive used slots, where slot 0 follows the last"
                + " slot.");
        for (int capacity : CAPACITIES) {
            HashLab lab = aroundTheEnd(capacity, 2);
            Check.equal("around the end of " + capacity, lab.clusters(), 1);
            lab.put(Keys.at(capacity, 4, 0), 0);
            Check.equal("and another one of " + capacity, lab.clusters(), 2);
            HashLab first = Labs.emptyOf(capacity);
            first.put(Keys.at(capacity, 0, 0), 0);
            first.put(Keys.at(capacity, capacity - 2, 0), 0);
            Check.equal("the last slot of " + capacity + " empty", first.clusters(), 2);
            HashLab last = Labs.emptyOf(capacity);
            last.put(Keys.at(capacity, 1, 0), 0);
            last.put(Keys.at(capacity, capacity - 1, 0), 0);
            Check.equal("the first slot of " + capacity + " empty", last.clusters(), 2);
        }
    }

    private static void promise30ThereIsAlwaysAnEmptySlot() {
        Check.sentence("Terms", "There is always an empty slot.");
        for (int index = 0; index < CAPACITIES.length; index++) {
            int capacity = CAPACITIES[index];
            HashLab lab = Labs.emptyOf(capacity);
            for (int key = 0; key < MOST_KEYS[index]; key++) {
                lab.put(key, 0);
            }
            int empty = 0;
            for (int slot = 0; slot < capacity; slot++) {
                empty += lab.clusterSize(slot) == 0 ? 1 : 0;
            }
            Check.equal("31: the most keys in " + capacity, empty, capacity - MOST_KEYS[index]);
        }
        HashLab graves = Labs.buried(Labs.atHomes(0, 1, 2, 3, 4, 5, 6));
        graves.put(Keys.at(8, 7, 0), 0);
        Check.equal("31: the eighth slot is not used, but the table rebuilt", graves.largestCluster(), 1);
    }

    private static void promise31Sizes() {
        Check.sentence("31", "Returns the number of slots, 0 if the slot is empty.");
        HashLab empty = new HashLab();
        Check.equal("the first of an empty table", empty.clusterSize(0), 0);
        Check.equal("the last of an empty table", empty.clusterSize(7), 0);
        HashLab graves = Labs.buried(Labs.atHomes(1, 2, 3, 4, 5, 6, 7));
        Check.equal("an empty slot between the ends of a cluster", graves.clusterSize(0), 0);
        for (int slot = 1; slot < 8; slot++) {
            Check.equal("seven tombstones, slot " + slot, graves.clusterSize(slot), 7);
        }
        HashLab lone = Labs.atHomes(3);
        Check.equal("beside it", lone.clusterSize(2), 0);
        Check.equal("a lone key", lone.clusterSize(3), 1);
        Check.equal("behind it", lone.clusterSize(4), 0);
        HashLab long57 = Labs.emptyOf(64);
        for (int n = 0; n < 57; n++) {
            long57.put(64 * n, 0);
        }
        Check.equal("first of 57", long57.clusterSize(0), 57);
        Check.equal("last of 57", long57.clusterSize(56), 57);
        Check.equal("behind 57", long57.clusterSize(57), 0);
        Check.equal("ahead of 57", long57.clusterSize(63), 0);
    }

    private static void promise31AroundTheEnd() {
        Check.sentence("31", "Returns the number of slots of the cluster to which a slot belongs. (around the end)");
        for (int capacity : CAPACITIES) {
            HashLab lab = aroundTheEnd(capacity, 3);
            for (int slot : new int[] {0, 1, 2, capacity - 3, capacity - 2, capacity - 1}) {
                Check.equal("slot " + slot + " of " + capacity, lab.clusterSize(slot), 6);
            }
            Check.equal("behind it, of " + capacity, lab.clusterSize(3), 0);
            Check.equal("ahead of it, of " + capacity, lab.clusterSize(capacity - 4), 0);
        }
    }

    private static void promise31NoSuchSlot() {
        Check.sentence("31", "Throws `IndexOutOfBoundsException` if there is no such slot");
        for (int slot : NO_SLOTS) {
            Labs.refused("slot " + slot, INDEX, Labs::busy, lab -> lab.clusterSize(slot));
        }
        for (int capacity : CAPACITIES) {
            Check.throwsExactly("the capacity " + capacity, INDEX, () -> Labs.emptyOf(capacity).clusterSize(capacity));
        }
    }

    private static void largest(String what, HashLab lab, int due) {
        Check.equal("32: " + what, lab.largestCluster(), due);
        Check.equal("33: " + what, lab.largestClusterByHalves(), due);
    }

    private static void promises32And33WithoutClusters() {
        Check.sentence("32 and 33", "Returns the number of slots, 0 without clusters.");
        for (int capacity : CAPACITIES) {
            HashLab lab = Labs.emptyOf(capacity);
            largest("none in " + capacity, lab, 0);
            lab.put(0, 0);
            largest("one in " + capacity, lab, 1);
            lab.remove(0);
            largest("a tombstone in " + capacity, lab, 1);
            lab.rebuild();
            largest("none any more in " + capacity, lab, 0);
        }
    }

    private static void promises32And33LargestOfAll() {
        Check.sentence("32 and 33", "Returns the number of slots of the largest cluster, by going around the table once."
                + " (the greatest)");
        for (int index = 0; index < CAPACITIES.length; index++) {
            int capacity = CAPACITIES[index];
            for (int start : new int[] {0, 1, capacity / 2, capacity - 1}) {
                HashLab lab = Labs.emptyOf(capacity);
                for (int n = 0; n < MOST_KEYS[index]; n++) {
                    lab.put(Keys.at(capacity, start, n), 0);
                }
                largest("all that go into " + capacity + " from " + start, lab, MOST_KEYS[index]);
                Labs.buried(lab);
                largest("all tombstones of " + capacity + " from " + start, lab, MOST_KEYS[index]);
            }
        }
    }

    private static void promises32And33AroundTheEnd() {
        Check.sentence("32 and 33", "Returns the number of slots of the largest cluster (around the end)");
        for (int capacity : CAPACITIES) {
            largest("around the end of " + capacity, aroundTheEnd(capacity, 3), 6);
            HashLab two = aroundTheEnd(capacity, 1);
            two.put(Keys.at(capacity, 3, 0), 0);
            two.put(Keys.at(capacity, 4, 0), 0);
            two.put(Keys.at(capacity, 5, 0), 0);
            largest("a smaller one around the end of " + capacity, two, 3);
            HashLab last = Labs.emptyOf(capacity);
            last.put(Keys.at(capacity, capacity - 1, 0), 0);
            last.put(Keys.at(capacity, capacity - 1, 1), 0);
            largest("last and first slot of " + capacity, last, 2);
        }
    }

    private static void promises32And33AcrossHalves() {
        Check.sentence("33", "Returns the same number, by a recursion that combines the halves of a range of slots.");
        for (int capacity : CAPACITIES) {
            for (int start = 0; start < capacity; start++) {
                HashLab lab = Labs.emptyOf(capacity);
                for (int n = 0; n < 5; n++) {
                    lab.put(Keys.at(capacity, start, n), 0);
                }
                largest("five slots of " + capacity + " from " + start, lab, 5);
            }
        }
    }

    private static void promises32And33OfSeveral() {
        Check.sentence("32 and 33", "Returns the number of slots of the largest cluster (of several)");
        HashLab equal = Labs.atHomes(0, 0, 4, 4);
        largest("two of the same size", equal, 2);
        HashLab first = Labs.atHomes(0, 0, 0, 5, 5);
        largest("the first one", first, 3);
        HashLab last = Labs.atHomes(0, 0, 4, 4, 4);
        largest("the last one", last, 3);
        HashLab lone = Labs.atHomes(0, 2, 4, 6);
        largest("lone slots", lone, 1);
        lone.remove(Keys.at(8, 2, 0));
        largest("lone slots, one a tombstone", lone, 1);
    }

    private static void promises27To33ChangeNothing() {
        Check.sentence("27 to 33", "Nothing is promised beyond the answers and state changes described above");
        Labs.changesNothing("isFull", Labs::busy, lab -> lab.isFull(0));
        Labs.changesNothing("isTombstone", Labs::busy, lab -> lab.isTombstone(0));
        Labs.changesNothing("keyIn", Labs::busy, lab -> lab.keyIn(0));
        Labs.changesNothing("clusters", Labs::busy, HashLab::clusters);
        Labs.changesNothing("clusterSize", Labs::busy, lab -> lab.clusterSize(0));
        Labs.changesNothing("largestCluster", Labs::busy, HashLab::largestCluster);
        Labs.changesNothing("largestClusterByHalves", Labs::busy, HashLab::largestClusterByHalves);
    }
}
