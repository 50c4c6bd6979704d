import java.util.NoSuchElementException;

/** Promises 27 to 33: slots and clusters. */
final class SlotsTest {

    private static final Class<IndexOutOfBoundsException> INDEX = IndexOutOfBoundsException.class;
    private static final int[] NO_SLOTS = {-1, 8, 63, 64, Integer.MIN_VALUE, Integer.MAX_VALUE};

    public static void main(String[] args) {
        promises27To29Slots();
        promises27To29InGrownTable();
        promises30To33NoClusters();
        promises30To33Clusters();
        promises30To33AroundTheEnd();
        promises30To33Patterns();
        Check.end();
    }

    private static void promises27To29Slots() {
        HashLab lab = Labs.with(0, 8);
        lab.remove(0);
        boolean[] full = {false, true, false};
        boolean[] tomb = {true, false, false};
        for (int slot = 0; slot < 3; slot++) {
            Check.equal("27 slot " + slot, lab.isFull(slot), full[slot]);
            Check.equal("28 slot " + slot, lab.isTombstone(slot), tomb[slot]);
        }
        Check.equal("29 full slot", lab.keyIn(1), 8);
        Check.throwsExactly("29 tombstone", NoSuchElementException.class, () -> lab.keyIn(0));
        Check.throwsExactly("29 empty slot", NoSuchElementException.class, () -> lab.keyIn(7));
        for (int slot : NO_SLOTS) {
            Check.throwsExactly("27 slot " + slot, INDEX, () -> lab.isFull(slot));
            Check.throwsExactly("28 slot " + slot, INDEX, () -> lab.isTombstone(slot));
            Check.throwsExactly("29 slot " + slot, INDEX, () -> lab.keyIn(slot));
            Check.throwsExactly("31 slot " + slot, INDEX, () -> lab.clusterSize(slot));
        }
    }

    private static void promises27To29InGrownTable() {
        HashLab lab = Labs.with(1, 2, 3, 4, 5, 6);
        Check.equal("29 slot of 16", lab.keyIn(14), 2);
        Check.isFalse("27 last of 16", lab.isFull(15));
        Check.throwsExactly("27 slot 16 of 16", INDEX, () -> lab.isFull(16));
        lab.remove(2);
        Check.isTrue("28 slot of 16", lab.isTombstone(14));
        lab.clear();
        Check.throwsExactly("27 slot 14 of 8", INDEX, () -> lab.isFull(14));
        Check.throwsExactly("28 slot 14 of 8", INDEX, () -> lab.isTombstone(14));
    }

    private static void promises30To33NoClusters() {
        HashLab lab = new HashLab();
        Check.equal("30 none", lab.clusters(), 0);
        Check.equal("31 none", lab.clusterSize(0), 0);
        Check.equal("32 none", lab.largestCluster(), 0);
        Check.equal("33 none", lab.largestClusterByHalves(), 0);
    }

    private static void promises30To33Clusters() {
        HashLab lab = Labs.with(0, 8, 5, 12);
        Check.equal("30 two", lab.clusters(), 2);
        lab.remove(8);
        Check.equal("30 tombstones belong to them", lab.clusters(), 2);
        int[] sizes = {2, 2, 0, 2, 2, 0, 0, 0};
        for (int slot = 0; slot < sizes.length; slot++) {
            Check.equal("31 slot " + slot, lab.clusterSize(slot), sizes[slot]);
        }
        Check.equal("32 two", lab.largestCluster(), 2);
        Check.equal("33 two", lab.largestClusterByHalves(), 2);
        lab.put(6, 6);
        Check.equal("30 joined", lab.clusters(), 1);
        Check.equal("31 joined", lab.clusterSize(2), 5);
        Check.equal("32 joined", lab.largestCluster(), 5);
        Check.equal("33 joined", lab.largestClusterByHalves(), 5);
    }

    private static void promises30To33AroundTheEnd() {
        HashLab lab = Labs.with(1, 2, 9, 17, 4);
        Check.equal("30 around the end", lab.clusters(), 2);
        Check.equal("31 slot 0", lab.clusterSize(0), 4);
        Check.equal("31 slot 7", lab.clusterSize(7), 4);
        Check.equal("31 slot 4", lab.clusterSize(4), 1);
        Check.equal("31 slot 5", lab.clusterSize(5), 0);
        Check.equal("32 around the end", lab.largestCluster(), 4);
        Check.equal("33 around the end", lab.largestClusterByHalves(), 4);
    }

    /** All sets of at most seven used slots of eight: key 7s mod 8 is at home in slot s, as 49 mod 8 is 1. */
    private static void promises30To33Patterns() {
        for (int pattern = 0; pattern < 255; pattern++) {
            HashLab lab = new HashLab();
            lab.setLimit(90);
            for (int slot = 0; slot < 8; slot++) {
                if ((pattern >> slot & 1) == 1) {
                    lab.put(7 * slot % 8, 0);
                }
            }
            int beginnings = 0;
            int largest = 0;
            for (int slot = 0; slot < 8; slot++) {
                int size = 0;
                while ((pattern >> (slot + size) % 8 & 1) == 1) {
                    size++;
                }
                largest = Math.max(largest, size);
                if (size > 0 && (pattern >> (slot + 7) % 8 & 1) == 0) {
                    beginnings++;
                    Check.equal("31 pattern " + pattern + " slot " + slot, lab.clusterSize(slot), size);
                }
            }
            Check.equal("30 pattern " + pattern, lab.clusters(), beginnings);
            Check.equal("32 pattern " + pattern, lab.largestCluster(), largest);
            Check.equal("33 pattern " + pattern, lab.largestClusterByHalves(), largest);
        }
    }
}
