import java.util.NoSuchElementException;

/** Promises 1 to 8: a new object, and changing the table. Without a seed, key k is at home in slot 7k mod 8. */
final class ChangesTest {

    private static final Class<IllegalArgumentException> ARGUMENT = IllegalArgumentException.class;
    private static final Class<IllegalStateException> STATE = IllegalStateException.class;
    private static final Class<NoSuchElementException> ELEMENT = NoSuchElementException.class;

    public static void main(String[] args) {
        promise1NewObject();
        promise2Put();
        promise2PutOutOfRange();
        promise2PutUsesTheFirstTombstone();
        promise2PutRebuilds();
        promise2PutAtGreatestCapacity();
        promise2PutThatCannotBe();
        promise3Remove();
        promise4Rebuild();
        promise4RebuildOrder();
        promise5SetKind();
        promise6SetSeed();
        promise7SetLimit();
        promise8Clear();
        Check.end();
    }

    private static void promise1NewObject() {
        HashLab lab = new HashLab();
        Check.equal("1 state", Labs.state(lab), "8/0/0/70/0/0/0/0:||||||||");
        Check.equal("1 slots", Labs.slots(lab), "........");
        Check.throwsExactly("1 undo", STATE, lab::undo);
        Check.throwsExactly("1 restore", STATE, lab::restore);
        Check.throwsExactly("1 errorPosition", ELEMENT, lab::errorPosition);
        Check.throwsExactly("1 failedCommand", ELEMENT, lab::failedCommand);
        Check.equal("1 type", lab.type('x'), 1);
        HashLab other = new HashLab();
        lab.put(1, 1);
        Check.equal("1 another object", other.size(), 0);
    }

    private static void promise2Put() {
        HashLab lab = new HashLab();
        Check.isTrue("2 new key", lab.put(0, 5));
        Check.isTrue("2 colliding key", lab.put(8, -999));
        Check.isTrue("2 greatest key", lab.put(9999, 999));
        Check.isFalse("2 same key", lab.put(0, -6));
        Check.equal("2 keys", Labs.keys(lab), "0=-6,8=-999,9999=999");
        Check.equal("2 slot of 8", lab.slotOf(8), 1);
        Check.equal("2 size", lab.size(), 3);
    }

    private static void promise2PutOutOfRange() {
        HashLab lab = Labs.with(1, 2, 3, 4, 5);
        String state = Labs.state(lab);
        int[][] wrong = {{-1, 0}, {10000, 0}, {0, -1000}, {0, 1000}, {1, 1000}, {-1, 1000},
            {Integer.MIN_VALUE, 0}, {Integer.MAX_VALUE, 0}, {1, Integer.MIN_VALUE}, {1, Integer.MAX_VALUE}};
        for (int[] pair : wrong) {
            Check.throwsExactly("2 put " + pair[0] + " " + pair[1], ARGUMENT, () -> lab.put(pair[0], pair[1]));
        }
        Check.equal("2 nothing changed", Labs.state(lab), state);
        lab.setLimit(25);
        Check.throwsExactly("2 range before room", ARGUMENT, () -> lab.put(6, 1000));
    }

    private static void promise2PutUsesTheFirstTombstone() {
        HashLab lab = Labs.with(0, 8, 16);
        lab.remove(0);
        lab.remove(8);
        Check.equal("2 tombstones", Labs.slots(lab), "xx3.....");
        Check.isFalse("2 contained behind tombstones", lab.put(16, 3));
        Check.equal("2 it stays in its slot", Labs.slots(lab), "xx3.....");
        lab.put(24, 1);
        Check.equal("2 first tombstone", Labs.slots(lab), "1x3.....");
        Check.equal("2 its slot", lab.slotOf(24), 0);
    }

    private static void promise2PutRebuilds() {
        HashLab full = Labs.with(1, 2, 3, 4, 5);
        Check.equal("2 five keys", full.capacity(), 8);
        Check.isFalse("2 a contained key at the limit", full.put(3, 1));
        Check.equal("2 no rebuild for it", full.rebuilds(), 0);
        full.put(6, 6);
        Check.equal("2 grown", Labs.state(full), "16/0/0/70/1/1/6/0:|||5=5||3=1||1=1|||6=6||4=4||2=2||");
        HashLab sparse = Labs.with(1, 2, 3, 4, 5);
        sparse.remove(1);
        sparse.remove(2);
        sparse.remove(3);
        sparse.remove(4);
        sparse.put(6, 6);
        Check.equal("2 rebuilt with the same capacity", Labs.state(sparse), "8/0/0/70/1/0/2/0:||6=6|5=5|||||");
        HashLab edge = Labs.with(1, 2);
        edge.setLimit(75);
        Labs.putAll(edge, 3, 4, 5, 6);
        Check.equal("2 six of eight do not exceed 75", edge.capacity(), 8);
        for (int key = 3; key <= 6; key++) {
            edge.remove(key);
        }
        edge.put(7, 7);
        Check.equal("2 twice three of eight do not exceed 75", Labs.state(edge),
                "8/0/0/75/1/0/3/0:|7=7|||||2=2|1=1|");
        edge.remove(2);
        edge.put(8, 8);
        edge.remove(8);
        edge.put(10, 10);
        edge.remove(10);
        edge.put(3, 3);
        edge.put(4, 4);
        Check.equal("2 no rebuild up to six used", edge.rebuilds(), 1);
        edge.put(5, 5);
        Check.equal("2 twice five of eight exceed 75", edge.capacity(), 16);
        HashLab half = Labs.with(1, 2, 3, 4, 5);
        half.remove(3);
        half.remove(4);
        half.remove(5);
        half.put(6, 6);
        Check.equal("2 twice three of eight exceed 70", half.capacity(), 16);
        HashLab tomb = Labs.with(1, 2, 3, 4, 5);
        tomb.remove(5);
        tomb.put(13, 1);
        Check.equal("2 a tombstone in reach does not spare the rebuild", tomb.capacity(), 16);
        Check.equal("2 nor is it left", tomb.tombstones(), 0);
    }

    private static void promise2PutAtGreatestCapacity() {
        HashLab lab = new HashLab();
        lab.setLimit(90);
        for (int key = 0; key < 57; key++) {
            lab.put(key, 0);
        }
        Check.equal("2 greatest capacity", lab.capacity(), 64);
        Check.equal("2 growths", lab.growths(), 3);
        Check.throwsExactly("2 key 58 of 64", STATE, () -> lab.put(57, 0));
        Check.isFalse("2 a contained key in the full table", lab.put(56, 1));
        lab.remove(0);
        Check.isTrue("2 rebuilt at 64", lab.put(57, 0));
        Check.equal("2 no growth", lab.growths(), 3);
        Check.equal("2 rebuilds", lab.rebuilds(), 4);
        Check.equal("2 tombstones", lab.tombstones(), 0);
    }

    private static void promise2PutThatCannotBe() {
        HashLab lab = Labs.with(1, 2, 3, 4, 5);
        lab.setLimit(25);
        String state = Labs.state(lab);
        Check.throwsExactly("2 no room even in 16", STATE, () -> lab.put(6, 6));
        Check.equal("2 nothing changed", Labs.state(lab), state);
        Check.isFalse("2 a contained key", lab.put(5, 7));
        lab.setLimit(37);
        Check.throwsExactly("2 six of 16 exceed 37", STATE, () -> lab.put(6, 6));
        lab.setLimit(38);
        Check.isTrue("2 six of 16 do not exceed 38", lab.put(6, 6));
    }

    private static void promise3Remove() {
        HashLab lab = Labs.with(0, 8, 16);
        lab.put(8, -7);
        Check.equal("3 value", lab.remove(8), -7);
        Check.equal("3 tombstone", Labs.slots(lab), "1x3.....");
        Check.equal("3 size", lab.size(), 2);
        for (int key : new int[] {8, 9, -1, -2, 10000, Integer.MIN_VALUE, Integer.MAX_VALUE}) {
            Check.throwsExactly("3 remove " + key, ELEMENT, () -> lab.remove(key));
        }
        Check.equal("3 nothing changed", Labs.slots(lab), "1x3.....");
        lab.remove(0);
        lab.remove(16);
        Check.equal("3 tombstones stay", Labs.slots(lab), "xxx.....");
    }

    private static void promise4Rebuild() {
        HashLab lab = Labs.with(0, 8, 16);
        lab.remove(0);
        lab.remove(8);
        Check.equal("4 tombstones that it had", lab.rebuild(), 2);
        Check.equal("4 rebuilt", Labs.slots(lab), "1.......");
        Check.equal("4 none now", lab.rebuild(), 0);
        Check.equal("4 rebuilds", lab.rebuilds(), 2);
        Check.equal("4 growths", lab.growths(), 0);
        HashLab dense = Labs.with(1, 2, 3, 4, 5);
        dense.setLimit(25);
        dense.rebuild();
        Check.equal("4 the limit does not matter", dense.capacity(), 8);
        HashLab big = Labs.with(1, 2, 3, 4, 5, 6);
        big.remove(6);
        big.remove(5);
        big.rebuild();
        Check.equal("4 the capacity stays", big.capacity(), 16);
    }

    private static void promise4RebuildOrder() {
        HashLab lab = Labs.with(7, 15, 1);
        Check.equal("4 before", Labs.state(lab), "8/0/0/70/0/0/3/0:|7=7|15=15|||||1=1|");
        Labs.putAll(lab, 9);
        Check.equal("4 around the end", lab.slotOf(9), 0);
        lab.remove(1);
        lab.rebuild();
        Check.equal("4 in the order of the old slots", Labs.state(lab), "8/0/0/70/1/0/3/0:|7=7|15=15|||||9=9|");
        HashLab wrapped = Labs.with(1, 9, 17);
        wrapped.rebuild();
        Check.equal("4 slot 0 comes first", Labs.state(wrapped), "8/0/0/70/1/0/3/0:17=17|1=1||||||9=9|");
    }

    private static void promise5SetKind() {
        HashLab lab = Labs.with(0, 8, 16, 24);
        Check.equal("5 previous", lab.setKind(1), 0);
        Check.equal("5 triangular", Labs.slots(lab), "12.3..4.");
        Check.equal("5 previous", lab.setKind(2), 1);
        Check.equal("5 double", lab.kind(), 2);
        lab.remove(8);
        Check.equal("5 same kind", lab.setKind(2), 2);
        Check.equal("5 rebuilt all the same", lab.tombstones(), 0);
        Check.equal("5 rebuilds", lab.rebuilds(), 3);
        String state = Labs.state(lab);
        for (int kind : new int[] {-1, 3, Integer.MIN_VALUE, Integer.MAX_VALUE}) {
            Check.throwsExactly("5 kind " + kind, ARGUMENT, () -> lab.setKind(kind));
        }
        Check.equal("5 nothing changed", Labs.state(lab), state);
        Check.equal("5 back", lab.setKind(0), 2);
        Check.equal("5 capacity", lab.capacity(), 8);
    }

    private static void promise6SetSeed() {
        HashLab lab = Labs.with(0, 8, 1);
        Check.equal("6 previous", lab.setSeed(1), 0);
        Check.equal("6 homes moved", Labs.state(lab), "8/0/1/70/1/0/3/0:||||1=1|0=0|8=8||");
        lab.remove(0);
        Check.equal("6 same seed", lab.setSeed(1), 1);
        Check.equal("6 rebuilt all the same", Labs.state(lab), "8/0/1/70/2/0/2/0:||||1=1|8=8|||");
        Check.equal("6 greatest", lab.setSeed(999), 1);
        String state = Labs.state(lab);
        for (int seed : new int[] {-1, 1000, Integer.MIN_VALUE, Integer.MAX_VALUE}) {
            Check.throwsExactly("6 seed " + seed, ARGUMENT, () -> lab.setSeed(seed));
        }
        Check.equal("6 nothing changed", Labs.state(lab), state);
        Check.equal("6 back", lab.setSeed(0), 999);
    }

    private static void promise7SetLimit() {
        HashLab lab = Labs.with(1, 2, 3);
        lab.remove(3);
        Check.equal("7 previous", lab.setLimit(25), 70);
        Check.equal("7 not rebuilt", Labs.state(lab), "8/0/0/25/0/0/2/1:|||||x|2=2|1=1|");
        Check.equal("7 greatest", lab.setLimit(90), 25);
        for (int limit : new int[] {24, 91, -1, Integer.MIN_VALUE, Integer.MAX_VALUE}) {
            Check.throwsExactly("7 limit " + limit, ARGUMENT, () -> lab.setLimit(limit));
        }
        Check.equal("7 nothing changed", lab.setLimit(90), 90);
    }

    private static void promise8Clear() {
        HashLab lab = Labs.with(1, 2, 3, 4, 5, 6);
        lab.setKind(2);
        lab.setSeed(7);
        lab.setLimit(80);
        lab.remove(2);
        Check.equal("8 keys that it had", lab.clear(), 5);
        Check.equal("8 cleared", Labs.state(lab), "8/2/7/80/3/1/0/0:||||||||");
        Check.equal("8 none now", lab.clear(), 0);
        Check.isFalse("8 key gone", lab.contains(1));
    }
}
