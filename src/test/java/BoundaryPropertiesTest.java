/** Boundary cases of promises 9 to 17, sentence by sentence. */
final class BoundaryPropertiesTest {

    private static final Class<IllegalStateException> STATE = IllegalStateException.class;

    public static void main(String[] args) {
        promise9Size();
        promise10Capacity();
        promise11Tombstones();
        promise12Kind();
        promise13Seed();
        promise14Limit();
        promise15Rebuilds();
        promise15WhatIsNoRebuild();
        promise16Growths();
        promise17WouldBeRebuilt();
        promise17CouldNotBePut();
        promise17WithTombstones();
        promises9To17ChangeNothing();
        Check.end();
    }

    private static void promise9Size() {
        Check.sentence("9", "Returns the number of full slots.");
        HashLab lab = new HashLab();
        Check.equal("none", lab.size(), 0);
        lab.put(9999, 0);
        Check.equal("one", lab.size(), 1);
        lab.put(9999, 1);
        Check.equal("the same key again", lab.size(), 1);
        Check.throwsExactly("a refused key", IllegalArgumentException.class, () -> lab.put(10000, 0));
        Check.equal("after a refused key", lab.size(), 1);
        lab.remove(9999);
        Check.equal("a tombstone is not full", lab.size(), 0);
        Check.equal("the most", Labs.fullest().size(), 57);
        Check.equal("the most in eight slots", Labs.atHomes(0, 1, 2, 3, 4, 5, 6).size(), 7);
    }

    private static void promise10Capacity() {
        Check.sentence("10", "Returns the number of slots.");
        HashLab lab = new HashLab();
        lab.setLimit(90);
        int[] keys = {7, 14, 28, 57};
        int[] capacities = {8, 16, 32, 64};
        int put = 0;
        for (int index = 0; index < keys.length; index++) {
            while (put < keys[index]) {
                lab.put(put, 0);
                put++;
            }
            Check.equal("with " + put + " keys", lab.capacity(), capacities[index]);
            Check.equal("growths with " + put + " keys", lab.growths(), index);
        }
        Labs.buried(lab);
        Check.equal("removing does not make it smaller", lab.capacity(), 64);
        lab.rebuild();
        Check.equal("rebuilding does not make it smaller", lab.capacity(), 64);
        lab.clear();
        Check.equal("clearing does", lab.capacity(), 8);
    }

    private static void promise11Tombstones() {
        Check.sentence("11", "Returns the number of tombstones.");
        Check.equal("none", new HashLab().tombstones(), 0);
        Check.equal("none among seven keys", Labs.atHomes(0, 1, 2, 3, 4, 5, 6).tombstones(), 0);
        HashLab lab = Labs.buried(Labs.atHomes(0, 1, 2, 3, 4, 5));
        Check.equal("six", lab.tombstones(), 6);
        lab.put(0, 0);
        Check.equal("one is used again", lab.tombstones(), 5);
        lab.put(Keys.at(8, 6, 0), 0);
        Check.equal("an empty slot is used", lab.tombstones(), 5);
        lab.put(Keys.at(8, 7, 0), 0);
        Check.equal("rebuilt by a new key", lab.tombstones(), 0);
        Check.equal("57", Labs.buried(Labs.fullest()).tombstones(), 57);
    }

    private static void promise12Kind() {
        Check.sentence("12", "Returns the kind.");
        HashLab lab = new HashLab();
        Check.equal("initially", lab.kind(), 0);
        lab.setKind(2);
        Check.throwsExactly("one beyond", IllegalArgumentException.class, () -> lab.setKind(3));
        Check.equal("greatest", lab.kind(), 2);
        lab.trial(1, 0, 40);
        lab.bestKind(0, 40);
        lab.isConsistent();
        Check.equal("after trials and checks with other kinds", lab.kind(), 2);
        lab.clear();
        Check.equal("after clear", lab.kind(), 2);
        lab.setKind(0);
        Check.equal("least", lab.kind(), 0);
    }

    private static void promise13Seed() {
        Check.sentence("13", "Returns the seed.");
        HashLab lab = new HashLab();
        Check.equal("initially", lab.seed(), 0);
        lab.setSeed(999);
        Check.throwsExactly("one beyond", IllegalArgumentException.class, () -> lab.setSeed(1000));
        Check.equal("greatest", lab.seed(), 999);
        lab.clear();
        Check.equal("after clear", lab.seed(), 999);
        lab.setSeed(0);
        Check.throwsExactly("one below", IllegalArgumentException.class, () -> lab.setSeed(-1));
        Check.equal("least", lab.seed(), 0);
    }

    private static void promise14Limit() {
        Check.sentence("14", "Returns the limit, a percentage.");
        HashLab lab = new HashLab();
        Check.equal("initially", lab.limit(), 70);
        lab.setLimit(90);
        Check.throwsExactly("one beyond", IllegalArgumentException.class, () -> lab.setLimit(91));
        Check.equal("greatest", lab.limit(), 90);
        lab.clear();
        Check.equal("after clear", lab.limit(), 90);
        lab.setLimit(25);
        Check.throwsExactly("one below", IllegalArgumentException.class, () -> lab.setLimit(24));
        Check.equal("least", lab.limit(), 25);
    }

    private static void promise15Rebuilds() {
        Check.sentence("15", "Returns how often the table was rebuilt, for whatever reason.");
        HashLab lab = new HashLab();
        Check.equal("never", lab.rebuilds(), 0);
        lab.rebuild();
        Check.equal("an empty table", lab.rebuilds(), 1);
        lab.setKind(0);
        Check.equal("by the same kind", lab.rebuilds(), 2);
        lab.setSeed(0);
        Check.equal("by the same seed", lab.rebuilds(), 3);
        lab.setLimit(25);
        Labs.putAll(lab, 1, 2);
        lab.remove(1);
        lab.remove(2);
        lab.put(3, 3);
        Check.equal("by a put with the same capacity", lab.rebuilds(), 4);
        Labs.putAll(lab, 4, 5);
        Check.equal("by a put with twice the capacity", lab.rebuilds(), 5);
        Labs.run(lab, "rebuild;kind l;seed 0;rebuild");
        Check.equal("four times by a program", lab.rebuilds(), 9);
        lab.undo();
        Check.equal("undone with it", lab.rebuilds(), 5);
        HashLab most = Labs.fullest();
        most.remove(0);
        most.put(0, 0);
        Check.equal("at 64", most.rebuilds(), 4);
    }

    private static void promise15WhatIsNoRebuild() {
        Check.sentence("15", "Returns the number of rebuilds. (what is none)");
        HashLab lab = Labs.crowded();
        Check.throwsExactly("a key that cannot be put", STATE, () -> lab.put(6, 6));
        Check.throwsExactly("no such kind", IllegalArgumentException.class, () -> lab.setKind(3));
        Check.throwsExactly("no such seed", IllegalArgumentException.class, () -> lab.setSeed(1000));
        Labs.outcome(() -> Labs.run(lab, "rebuild;seed 1;limit 91"));
        Labs.outcome(() -> Labs.run(lab, "rebuild;"));
        lab.put(5, 0);
        lab.remove(5);
        lab.setLimit(26);
        lab.trial(2, 1, 40);
        lab.bestKind(1, 40);
        lab.isConsistent();
        lab.save();
        lab.restore();
        lab.clear();
        Check.equal("none of these", lab.rebuilds(), 0);
        Check.equal("none of these grew", lab.growths(), 0);
    }

    private static void promise16Growths() {
        Check.sentence("16", "Returns how often the table was rebuilt with a greater capacity.");
        HashLab lab = new HashLab();
        Check.equal("never", lab.growths(), 0);
        lab.rebuild();
        lab.setKind(1);
        lab.setSeed(1);
        Check.equal("not with the same capacity", lab.growths(), 0);
        lab.setLimit(25);
        int[] due = {0, 0, 1, 1, 2, 2, 2, 2, 3};
        for (int key = 0; key < due.length; key++) {
            lab.put(key, 0);
            Check.equal("with " + (key + 1) + " keys", lab.growths(), due[key]);
        }
        lab.clear();
        Check.equal("clear leaves them", lab.growths(), 3);
        Labs.putAll(lab, 1, 2, 3);
        Check.equal("they go on afterwards", lab.growths(), 4);
        HashLab most = Labs.fullest();
        most.remove(0);
        most.put(0, 0);
        Check.equal("none beyond 64", most.growths(), 3);
    }

    private static void promise17WouldBeRebuilt() {
        Check.sentence("17", "Returns whether the table would be rebuilt if a new key was put now.");
        Check.isFalse("an empty table", new HashLab().isNearLimit());
        int[] most = {7, 14, 28, 57};
        int[] capacities = {8, 16, 32, 64};
        for (int index = 0; index < most.length; index++) {
            HashLab lab = Labs.emptyOf(capacities[index]);
            for (int key = 0; key < most[index] - 1; key++) {
                lab.put(key, 0);
            }
            Check.isFalse("one ahead of the limit of " + capacities[index], lab.isNearLimit());
            lab.put(most[index] - 1, 0);
            Check.isTrue("at the limit of " + capacities[index], lab.isNearLimit());
        }
        HashLab exact = Labs.with(1, 2, 3);
        exact.setLimit(50);
        Check.isFalse("four of eight reach 50 and do not exceed it", exact.isNearLimit());
        exact.setLimit(49);
        Check.isTrue("four of eight exceed 49", exact.isNearLimit());
    }

    private static void promise17CouldNotBePut() {
        Check.sentence("17", "Returns true if it would be rebuilt, or if the key could not be put.");
        Check.isTrue("no room even in twice the capacity", Labs.crowded().isNearLimit());
        HashLab fullest = Labs.fullest();
        Check.isTrue("no room in 64", fullest.isNearLimit());
        fullest.remove(0);
        Check.isTrue("room in 64 once it is rebuilt", fullest.isNearLimit());
        fullest.rebuild();
        Check.isFalse("room in 64", fullest.isNearLimit());
    }

    private static void promise17WithTombstones() {
        Check.sentence("17", "Returns true if it would be rebuilt (for its tombstones).");
        HashLab six = Labs.buried(Labs.atHomes(0, 1, 2, 3, 4, 5));
        Check.isFalse("six tombstones of eight at 90", six.isNearLimit());
        HashLab seven = Labs.buried(Labs.atHomes(0, 1, 2, 3, 4, 5, 6));
        Check.isTrue("seven tombstones of eight at 90", seven.isNearLimit());
        seven.put(0, 0);
        Check.equal("a new key does rebuild it", seven.rebuilds(), 1);
        Check.isFalse("it is far from the limit then", seven.isNearLimit());
    }

    private static void promises9To17ChangeNothing() {
        Check.sentence("9 to 17", "Nothing is promised beyond the answers and state changes described above");
        Labs.changesNothing("size", Labs::busy, HashLab::size);
        Labs.changesNothing("capacity", Labs::busy, HashLab::capacity);
        Labs.changesNothing("tombstones", Labs::busy, HashLab::tombstones);
        Labs.changesNothing("kind", Labs::busy, HashLab::kind);
        Labs.changesNothing("seed", Labs::busy, HashLab::seed);
        Labs.changesNothing("limit", Labs::busy, HashLab::limit);
        Labs.changesNothing("rebuilds", Labs::busy, HashLab::rebuilds);
        Labs.changesNothing("growths", Labs::busy, HashLab::growths);
        Labs.changesNothing("isNearLimit", Labs::busy, HashLab::isNearLimit);
        Labs.changesNothing("isNearLimit of a crowded table", Labs::crowded, HashLab::isNearLimit);
    }
}
