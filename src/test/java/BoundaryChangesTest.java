import java.util.NoSuchElementException;

/** Boundary cases of promises 1 to 8, sentence by sentence. */
final class BoundaryChangesTest {

    private static final Class<IllegalArgumentException> ARGUMENT = IllegalArgumentException.class;
    private static final Class<IllegalStateException> STATE = IllegalStateException.class;
    private static final Class<NoSuchElementException> ELEMENT = NoSuchElementException.class;

    public static void main(String[] args) {
        promise1EmptyTable();
        promise1NothingToThrowAway();
        promise2LeastAndGreatest();
        promise2ContainedKey();
        promise2ContainedKeyWithoutRoom();
        promise2TrueIfNew();
        promise2OutOfRange();
        promise2CannotBePut();
        promise3Tombstone();
        promise3LastKey();
        promise3Value();
        promise3NotContained();
        promise4SameCapacity();
        promise4Tombstones();
        promise5LeastAndGreatest();
        promise5EvenIfTheKindDoesNotChange();
        promise5NoSuchKind();
        promise6LeastAndGreatest();
        promise6EvenIfTheSeedDoesNotChange();
        promise6OutOfRange();
        promise7LeastAndGreatest();
        promise7NotRebuilt();
        promise7OutOfRange();
        promise8Capacity();
        promise8WhatStays();
        promise8Keys();
        Check.end();
    }

    private static void promise1EmptyTable() {
        Check.sentence("1", "Creates a laboratory with an empty table.");
        HashLab lab = new HashLab();
        Check.equal("state", Labs.state(lab), "8/0/0/70/0/0/0/0:||||||||");
        Check.equal("slots", lab.writeSlots(), 8);
        Check.equal("keys", lab.writeKeys(), 0);
        Check.isFalse("a key", lab.contains(0));
        Check.equal("a search", lab.probes(0), 1);
        Check.isFalse("near the limit", lab.isNearLimit());
        HashLab other = new HashLab();
        other.put(0, 0);
        Check.isFalse("a key of another laboratory", lab.contains(0));
    }

    private static void promise1NothingToThrowAway() {
        Check.sentence("1", "Creates a laboratory with an empty table. (what it refuses)");
        Labs.refused("remove", ELEMENT, HashLab::new, lab -> lab.remove(0));
        Labs.refused("get", ELEMENT, HashLab::new, lab -> lab.get(0));
        Labs.refused("slotOf", ELEMENT, HashLab::new, lab -> lab.slotOf(0));
        Labs.refused("probesBySlot", ELEMENT, HashLab::new, lab -> lab.probesBySlot(0));
        Labs.refused("keyAt", ELEMENT, HashLab::new, lab -> lab.keyAt(0));
        Labs.refused("hardestKey", ELEMENT, HashLab::new, HashLab::hardestKey);
        Labs.refused("keyIn", ELEMENT, HashLab::new, lab -> lab.keyIn(0));
        Labs.refused("meanProbes", ArithmeticException.class, HashLab::new, HashLab::meanProbes);
        Labs.refused("meanProbesBits", ArithmeticException.class, HashLab::new, HashLab::meanProbesBits);
        Labs.refused("charAt", IndexOutOfBoundsException.class, HashLab::new, lab -> lab.charAt(0));
        Labs.refused("errorPosition", ELEMENT, HashLab::new, HashLab::errorPosition);
        Labs.refused("failedCommand", ELEMENT, HashLab::new, HashLab::failedCommand);
        Labs.refused("undo", STATE, HashLab::new, HashLab::undo);
        Labs.refused("restore", STATE, HashLab::new, HashLab::restore);
    }

    private static void promise2LeastAndGreatest() {
        Check.sentence("2", "`key`: the key, 0 to 9999; `value`: the value, -999 to 999");
        int[] keys = {0, 9999};
        int[] values = {-999, 0, 999};
        for (int key : keys) {
            for (int value : values) {
                HashLab lab = new HashLab();
                Check.isTrue("new " + key + " " + value, lab.put(key, value));
                Check.equal("value " + key + " " + value, lab.get(key), value);
                Check.isFalse("replaced " + key + " " + value, lab.put(key, -value));
                Check.equal("replaced value " + key + " " + value, lab.get(key), -value);
            }
        }
    }

    private static void promise2ContainedKey() {
        Check.sentence("2", "If the key is contained already, its value is replaced, and nothing else changes.");
        HashLab lab = Labs.atHomes(0, 0, 0, 7, 7);
        lab.remove(Keys.at(8, 0, 0));
        String state = Labs.state(lab);
        int key = Keys.at(8, 0, 2);
        Check.isFalse("behind a tombstone", lab.put(key, -5));
        Check.equal("its value alone", Labs.state(lab), state.replace(key + "=" + key, key + "=-5"));
        HashLab busy = Labs.busy();
        String line = Labs.line(busy, 8);
        busy.put(1, 1);
        Check.equal("the line stays", Labs.line(busy, 8), line);
        Check.equal("the error position stays", busy.errorPosition(), 6);
        Check.equal("the failed command stays", busy.failedCommand(), 1);
        Check.equal("the buffer stays", busy.type(';'), 17);
        Check.equal("the saved state stays", busy.restore(), 2);
    }

    private static void promise2ContainedKeyWithoutRoom() {
        Check.sentence("2", "If the key is contained already, its value is replaced, and nothing else changes. (at the"
                + " limit)");
        HashLab atLimit = Labs.with(1, 2, 3, 4, 5);
        Check.isFalse("a table that a new key would rebuild", atLimit.put(5, 9));
        Check.equal("it is not rebuilt", Labs.state(atLimit), "8/0/0/70/0/0/5/0:|||5=9|4=4|3=3|2=2|1=1|");
        HashLab crowded = Labs.crowded();
        Check.isFalse("a table in which no new key can be put", crowded.put(1, 9));
        Check.equal("it is not rebuilt either", Labs.state(crowded), "8/0/0/25/0/0/5/0:|||5=5|4=4|3=3|2=2|1=9|");
        HashLab fullest = Labs.fullest();
        Check.isFalse("57 keys", fullest.put(56, 999));
        Check.equal("57 keys, rebuilds", fullest.rebuilds(), 3);
        Check.equal("57 keys, value", fullest.get(56), 999);
        Check.equal("57 keys, size", fullest.size(), 57);
    }

    private static void promise2TrueIfNew() {
        Check.sentence("2", "Returns true if the key is new.");
        HashLab lab = new HashLab();
        Check.isTrue("in an empty table", lab.put(0, 0));
        Check.isFalse("again", lab.put(0, 0));
        lab.remove(0);
        Check.isTrue("once removed", lab.put(0, 0));
        lab.clear();
        Check.isTrue("once cleared", lab.put(0, 0));
        lab.undo();
        Check.isTrue("once undone", lab.put(0, 0));
        HashLab last = Labs.fullest();
        last.remove(9);
        Check.isTrue("the 57th key", last.put(9, 0));
        Check.isFalse("again the 57th key", last.put(9, 0));
    }

    private static void promise2OutOfRange() {
        Check.sentence("2", "Throws `IllegalArgumentException` if the key or the value is out of range");
        for (int key : new int[] {-1, -2, 10000, Integer.MIN_VALUE, Integer.MAX_VALUE}) {
            Labs.refused("key " + key, ARGUMENT, Labs::busy, lab -> lab.put(key, 0));
        }
        for (int value : new int[] {-1000, 1000, Integer.MIN_VALUE, Integer.MAX_VALUE}) {
            Labs.refused("value " + value + " of a new key", ARGUMENT, Labs::busy, lab -> lab.put(7, value));
            Labs.refused("value " + value + " of a contained key", ARGUMENT, Labs::busy, lab -> lab.put(1, value));
        }
        Labs.refused("both", ARGUMENT, Labs::busy, lab -> lab.put(10000, 1000));
    }

    private static void promise2CannotBePut() {
        Check.sentence("2", "Throws `IllegalStateException` if the key is new and cannot be put");
        Labs.refused("a new key", STATE, Labs::crowded, lab -> lab.put(6, 6));
        Labs.refused("the least key", STATE, Labs::crowded, lab -> lab.put(0, -999));
        Labs.refused("the greatest key", STATE, Labs::crowded, lab -> lab.put(9999, 999));
        Labs.refused("a removed key", STATE, () -> {
            HashLab lab = Labs.with(1, 2, 3, 4, 5);
            lab.remove(5);
            lab.setLimit(25);
            return lab;
        }, lab -> lab.put(5, 5));
        HashLab fullest = Labs.fullest();
        Check.throwsExactly("the 58th key", STATE, () -> fullest.put(57, 0));
        Check.equal("the 58th key, size", fullest.size(), 57);
        Check.equal("the 58th key, rebuilds", fullest.rebuilds(), 3);
        Check.equal("the 58th key, changes", fullest.undo(), 7);
        Check.equal("the 58th key, the latest change is the 57th", fullest.size(), 56);
    }

    private static void promise3Tombstone() {
        Check.sentence("3", "Its slot becomes a tombstone.");
        HashLab lone = Labs.atHomes(3);
        lone.remove(5);
        Check.equal("a lone key, beside empty slots", Labs.state(lone), "8/0/0/90/0/0/0/1:|||x|||||");
        HashLab around = Labs.atHomes(7, 7);
        around.remove(9);
        Check.equal("the one that went around the end", Labs.state(around), "8/0/0/90/0/0/1/1:x|||||||1=1|");
        around.remove(1);
        Check.equal("the last slot", Labs.state(around), "8/0/0/90/0/0/0/2:x|||||||x|");
    }

    private static void promise3LastKey() {
        Check.sentence("3", "Removes a key.");
        HashLab lab = Labs.buried(Labs.atHomes(0, 1, 2, 3, 4, 5, 6));
        Check.equal("no keys, but seven tombstones", Labs.state(lab), "8/0/0/90/0/0/0/7:x|x|x|x|x|x|x||");
        HashLab fullest = Labs.buried(Labs.fullest());
        Check.equal("57 removed, tombstones", fullest.tombstones(), 57);
        Check.equal("57 removed, size", fullest.size(), 0);
        Check.equal("57 removed, capacity", fullest.capacity(), 64);
    }

    private static void promise3Value() {
        Check.sentence("3", "Returns the value of the key.");
        HashLab lab = new HashLab();
        lab.put(0, -999);
        lab.put(8, 0);
        lab.put(9999, 999);
        lab.put(16, 16);
        Check.equal("least", lab.remove(0), -999);
        Check.equal("zero", lab.remove(8), 0);
        Check.equal("greatest", lab.remove(9999), 999);
        lab.put(16, -1);
        Check.equal("replaced", lab.remove(16), -1);
        lab.put(0, 5);
        Check.equal("put again", lab.remove(0), 5);
    }

    private static void promise3NotContained() {
        Check.sentence("3", "Throws `NoSuchElementException` if the key is not contained");
        for (int key : new int[] {2, 4, 9999, -1, -2, 10000, Integer.MIN_VALUE, Integer.MAX_VALUE}) {
            Labs.refused("key " + key, ELEMENT, Labs::busy, lab -> lab.remove(key));
            Labs.refused("in an empty table, key " + key, ELEMENT, HashLab::new, lab -> lab.remove(key));
            Labs.refused("among tombstones, key " + key, ELEMENT,
                    () -> Labs.buried(Labs.atHomes(0, 1, 2, 3, 4, 5, 6)), lab -> lab.remove(key));
        }
    }

    private static void promise4SameCapacity() {
        Check.sentence("4", "Rebuilds the table with the same capacity.");
        for (int capacity : new int[] {8, 16, 32, 64}) {
            HashLab lab = Labs.emptyOf(capacity);
            int rebuilds = lab.rebuilds();
            lab.rebuild();
            Check.equal("an empty table of " + capacity, lab.capacity(), capacity);
            Check.equal("it counts", lab.rebuilds(), rebuilds + 1);
        }
        HashLab crowded = Labs.crowded();
        crowded.rebuild();
        Check.equal("beyond the limit", Labs.state(crowded), "8/0/0/25/1/0/5/0:|||5=5|4=4|3=3|2=2|1=1|");
        HashLab fullest = Labs.fullest();
        fullest.rebuild();
        Check.equal("57 keys, capacity", fullest.capacity(), 64);
        Check.equal("57 keys, size", fullest.size(), 57);
        Check.equal("57 keys, rebuilds", fullest.rebuilds(), 4);
        Check.equal("57 keys, growths", fullest.growths(), 3);
    }

    private static void promise4Tombstones() {
        Check.sentence("4", "Returns the number of tombstones that it had.");
        Check.equal("none in an empty table", new HashLab().rebuild(), 0);
        Check.equal("none in a table of five keys", Labs.with(1, 2, 3, 4, 5).rebuild(), 0);
        HashLab seven = Labs.buried(Labs.atHomes(0, 1, 2, 3, 4, 5, 6));
        Check.equal("seven", seven.rebuild(), 7);
        Check.equal("none afterwards", seven.rebuild(), 0);
        HashLab most = Labs.buried(Labs.fullest());
        Check.equal("57", most.rebuild(), 57);
        Check.equal("none left", most.tombstones(), 0);
    }

    private static void promise5LeastAndGreatest() {
        Check.sentence("5", "`kind`: the new kind, 0 to 2. Returns the previous kind.");
        HashLab lab = Labs.with(0, 8, 16, 24);
        Check.equal("greatest", lab.setKind(2), 0);
        Check.equal("greatest set", lab.kind(), 2);
        Check.equal("least", lab.setKind(0), 2);
        Check.equal("least set", lab.kind(), 0);
        Check.equal("between", lab.setKind(1), 0);
        Check.equal("between set", lab.kind(), 1);
    }

    private static void promise5EvenIfTheKindDoesNotChange() {
        Check.sentence("5", "Sets the kind of probing and rebuilds the table with the same capacity, even if the kind"
                + " does not change.");
        for (int kind = 0; kind < 3; kind++) {
            HashLab lab = Labs.buried(Labs.atHomes(0, 1, 2));
            lab.setKind(kind);
            lab.put(0, 0);
            lab.remove(0);
            Check.equal("kind " + kind, lab.setKind(kind), kind);
            Check.equal("kind " + kind + ", rebuilt", Labs.state(lab), "8/" + kind + "/0/90/2/0/0/0:||||||||");
        }
        HashLab crowded = Labs.crowded();
        crowded.setKind(0);
        Check.equal("beyond the limit", Labs.state(crowded), "8/0/0/25/1/0/5/0:|||5=5|4=4|3=3|2=2|1=1|");
        HashLab fullest = Labs.fullest();
        fullest.setKind(2);
        Check.equal("57 keys, capacity", fullest.capacity(), 64);
        Check.equal("57 keys, size", fullest.size(), 57);
        Check.equal("57 keys, growths", fullest.growths(), 3);
    }

    private static void promise5NoSuchKind() {
        Check.sentence("5", "Throws `IllegalArgumentException` if there is no such kind");
        for (int kind : new int[] {-1, 3, Integer.MIN_VALUE, Integer.MAX_VALUE}) {
            Labs.refused("kind " + kind, ARGUMENT, Labs::busy, lab -> lab.setKind(kind));
        }
    }

    private static void promise6LeastAndGreatest() {
        Check.sentence("6", "`seed`: the new seed, 0 to 999. Returns the previous seed.");
        HashLab lab = Labs.with(0);
        Check.equal("greatest", lab.setSeed(999), 0);
        Check.equal("greatest set", Labs.state(lab), "8/0/999/70/1/0/1/0:|||0=0|||||");
        Check.equal("least", lab.setSeed(0), 999);
        Check.equal("least set", Labs.state(lab), "8/0/0/70/2/0/1/0:0=0||||||||");
    }

    private static void promise6EvenIfTheSeedDoesNotChange() {
        Check.sentence("6", "Sets the seed and rebuilds the table with the same capacity, even if the seed does not"
                + " change.");
        for (int seed : new int[] {0, 1, 999}) {
            HashLab lab = Labs.buried(Labs.atHomes(0, 1, 2));
            lab.setSeed(seed);
            lab.put(0, 0);
            lab.remove(0);
            Check.equal("seed " + seed, lab.setSeed(seed), seed);
            Check.equal("seed " + seed + ", rebuilt", Labs.state(lab), "8/0/" + seed + "/90/2/0/0/0:||||||||");
        }
        HashLab crowded = Labs.crowded();
        crowded.setSeed(0);
        Check.equal("beyond the limit", Labs.state(crowded), "8/0/0/25/1/0/5/0:|||5=5|4=4|3=3|2=2|1=1|");
        HashLab fullest = Labs.fullest();
        fullest.setSeed(999);
        Check.equal("57 keys, capacity", fullest.capacity(), 64);
        Check.equal("57 keys, size", fullest.size(), 57);
        Check.equal("57 keys, growths", fullest.growths(), 3);
    }

    private static void promise6OutOfRange() {
        Check.sentence("6", "Throws `IllegalArgumentException` if the seed is out of range");
        for (int seed : new int[] {-1, 1000, Integer.MIN_VALUE, Integer.MAX_VALUE}) {
            Labs.refused("seed " + seed, ARGUMENT, Labs::busy, lab -> lab.setSeed(seed));
        }
    }

    private static void promise7LeastAndGreatest() {
        Check.sentence("7", "`limit`: the new limit, 25 to 90. Returns the previous limit.");
        HashLab lab = new HashLab();
        Check.equal("least", lab.setLimit(25), 70);
        Check.equal("least set", lab.limit(), 25);
        Check.equal("the same", lab.setLimit(25), 25);
        Check.equal("greatest", lab.setLimit(90), 25);
        Check.equal("greatest set", lab.limit(), 90);
    }

    private static void promise7NotRebuilt() {
        Check.sentence("7", "Sets the load limit. The table is not rebuilt by that.");
        HashLab lab = Labs.atHomes(0, 1, 2, 3, 4, 5, 6);
        lab.remove(7);
        String slots = Labs.state(lab).split(":")[1];
        lab.setLimit(25);
        Check.equal("beyond the new limit", Labs.state(lab), "8/0/0/25/0/0/6/1:" + slots);
        Check.isFalse("nor by a contained key", lab.put(0, 0));
        Check.equal("nor by a contained key, rebuilds", lab.rebuilds(), 0);
        HashLab fullest = Labs.fullest();
        fullest.setLimit(25);
        Check.equal("57 keys, capacity", fullest.capacity(), 64);
        Check.equal("57 keys, rebuilds", fullest.rebuilds(), 3);
    }

    private static void promise7OutOfRange() {
        Check.sentence("7", "Throws `IllegalArgumentException` if the limit is out of range");
        for (int limit : new int[] {24, 91, 0, -25, 100, Integer.MIN_VALUE, Integer.MAX_VALUE}) {
            Labs.refused("limit " + limit, ARGUMENT, Labs::busy, lab -> lab.setLimit(limit));
        }
    }

    private static void promise8Capacity() {
        Check.sentence("8", "Makes all slots empty and sets the capacity to 8.");
        for (int capacity : new int[] {8, 16, 32, 64}) {
            HashLab lab = Labs.emptyOf(capacity);
            lab.put(0, 0);
            lab.put(1, 1);
            lab.remove(1);
            String numbers = "8/0/0/90/" + lab.rebuilds() + "/" + lab.growths() + "/0/0:";
            lab.clear();
            Check.equal("from " + capacity, Labs.state(lab), numbers + "||||||||");
            lab.put(1, 1);
            Check.equal("a key afterwards, from " + capacity, lab.slotOf(1), 7);
        }
        HashLab fullest = Labs.fullest();
        fullest.clear();
        Check.equal("57 keys", Labs.state(fullest), "8/0/0/90/3/3/0/0:||||||||");
    }

    private static void promise8WhatStays() {
        Check.sentence("8", "The kind, the seed, the limit and the numbers of rebuilds and growths stay; this is not a"
                + " rebuild.");
        HashLab lab = new HashLab();
        lab.clear();
        Check.equal("an empty table", Labs.state(lab), "8/0/0/70/0/0/0/0:||||||||");
        Labs.putAll(lab, 1, 2, 3, 4, 5, 6);
        lab.setKind(2);
        lab.setSeed(999);
        lab.setLimit(25);
        lab.clear();
        Check.equal("all of them", Labs.state(lab), "8/2/999/25/3/1/0/0:||||||||");
        lab.clear();
        Check.equal("again", Labs.state(lab), "8/2/999/25/3/1/0/0:||||||||");
    }

    private static void promise8Keys() {
        Check.sentence("8", "Returns the number of keys that were contained.");
        HashLab lab = new HashLab();
        Check.equal("none", lab.clear(), 0);
        lab.put(0, 0);
        Check.equal("one", lab.clear(), 1);
        Check.equal("none any more", lab.clear(), 0);
        Check.equal("57", Labs.fullest().clear(), 57);
        Check.equal("tombstones do not count", Labs.buried(Labs.atHomes(0, 1, 2, 3, 4, 5, 6)).clear(), 0);
    }
}
