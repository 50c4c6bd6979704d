import java.util.NoSuchElementException;

/** Promises 18 to 26: keys. */
final class KeysTest {

    private static final Class<IllegalArgumentException> ARGUMENT = IllegalArgumentException.class;
    private static final Class<NoSuchElementException> ELEMENT = NoSuchElementException.class;
    private static final Class<IndexOutOfBoundsException> INDEX = IndexOutOfBoundsException.class;
    private static final int[] ABSENT = {4, -1, -2, 10000, Integer.MIN_VALUE, Integer.MAX_VALUE};
    private static final int[] NO_KEYS = {-1, -2, 10000, Integer.MIN_VALUE, Integer.MAX_VALUE};

    public static void main(String[] args) {
        promises18To20Lookup();
        promise21Probe();
        promise22Step();
        promise23Probes();
        promise24ProbesBySlot();
        promise25KeyAt();
        promise26HardestKey();
        Check.end();
    }

    private static void promises18To20Lookup() {
        HashLab lab = new HashLab();
        lab.put(0, -999);
        lab.put(8, 999);
        lab.put(9999, 0);
        lab.put(16, 3);
        lab.remove(16);
        Check.isTrue("18 least", lab.contains(0));
        Check.isTrue("18 greatest", lab.contains(9999));
        Check.isFalse("18 removed", lab.contains(16));
        Check.equal("19 least", lab.get(0), -999);
        Check.equal("19 second", lab.get(8), 999);
        Check.equal("19 zero", lab.get(9999), 0);
        Check.equal("20 home", lab.slotOf(0), 0);
        Check.equal("20 next", lab.slotOf(8), 1);
        Check.equal("20 collision", lab.slotOf(9999), 2);
        for (int key : ABSENT) {
            Check.isFalse("18 contains " + key, lab.contains(key));
            Check.throwsExactly("19 get " + key, ELEMENT, () -> lab.get(key));
            Check.throwsExactly("20 slotOf " + key, ELEMENT, () -> lab.slotOf(key));
        }
        Check.throwsExactly("19 get removed", ELEMENT, () -> lab.get(16));
        Check.throwsExactly("20 slotOf removed", ELEMENT, () -> lab.slotOf(16));
    }

    private static String sequence(HashLab lab, int key) {
        StringBuilder text = new StringBuilder();
        for (int index = 0; index < lab.capacity(); index++) {
            text.append(lab.probe(key, index));
        }
        return text.toString();
    }

    private static void promise21Probe() {
        HashLab lab = new HashLab();
        Check.equal("21 linear", sequence(lab, 1), "70123456");
        lab.setKind(1);
        Check.equal("21 triangular", sequence(lab, 1), "70251643");
        lab.setKind(2);
        Check.equal("21 double", sequence(lab, 1), "74163052");
        lab.setSeed(1);
        Check.equal("21 double with a seed", sequence(lab, 0), "52741630");
        Check.equal("21 home with a seed", lab.probe(0, 0), 5);
        for (int key : NO_KEYS) {
            Check.throwsExactly("21 key " + key, ARGUMENT, () -> lab.probe(key, 0));
            Check.throwsExactly("21 key before index " + key, ARGUMENT, () -> lab.probe(key, -1));
        }
        for (int index : new int[] {-1, 8, 63, Integer.MIN_VALUE, Integer.MAX_VALUE}) {
            Check.throwsExactly("21 index " + index, INDEX, () -> lab.probe(0, index));
        }
        Labs.putAll(lab, 1, 2, 3, 4, 5, 6);
        Check.isTrue("21 the last of 16", lab.probe(0, 15) < 16);
        Check.throwsExactly("21 index 16 of 16", INDEX, () -> lab.probe(0, 16));
    }

    private static void promise22Step() {
        HashLab lab = new HashLab();
        Check.equal("22 linear", lab.step(8), 1);
        lab.setKind(1);
        Check.equal("22 triangular", lab.step(8), 1);
        lab.setKind(2);
        int[][] steps = {{0, 1}, {1, 5}, {8, 7}, {16, 5}, {24, 3}, {9999, 7}};
        for (int[] pair : steps) {
            Check.equal("22 double, key " + pair[0], lab.step(pair[0]), pair[1]);
        }
        lab.setSeed(999);
        Check.equal("22 double with a seed", lab.step(0), 2 * (9973 * 999 % 65536 / 8 % 4) + 1);
        Labs.putAll(lab, 1, 2, 3, 4, 5, 6);
        Check.equal("22 double in 16 slots", lab.step(9999), 2 * ((40503 * 9999 + 9973 * 999) % 65536 / 16 % 8) + 1);
        for (int key : NO_KEYS) {
            Check.throwsExactly("22 step " + key, ARGUMENT, () -> lab.step(key));
        }
    }

    private static void promise23Probes() {
        HashLab lab = new HashLab();
        Check.equal("23 empty table", lab.probes(0), 1);
        Labs.putAll(lab, 0, 8, 16);
        Check.equal("23 home", lab.probes(0), 1);
        Check.equal("23 third", lab.probes(16), 3);
        Check.equal("23 not contained", lab.probes(24), 4);
        Check.equal("23 not contained, at an empty home", lab.probes(1), 1);
        Check.equal("23 around the end", lab.probes(9999), 3);
        lab.remove(8);
        Check.equal("23 over a tombstone", lab.probes(16), 3);
        Check.equal("23 the removed key", lab.probes(8), 4);
        for (int key : NO_KEYS) {
            Check.throwsExactly("23 probes " + key, ARGUMENT, () -> lab.probes(key));
        }
    }

    private static void promise24ProbesBySlot() {
        for (int kind = 0; kind < 3; kind++) {
            HashLab lab = Labs.with(0, 8, 16, 24, 1);
            lab.setKind(kind);
            lab.remove(8);
            for (int key : new int[] {0, 16, 24, 1}) {
                Check.equal("24 kind " + kind + " key " + key, lab.probesBySlot(key), lab.probes(key));
            }
            Check.throwsExactly("24 removed", ELEMENT, () -> lab.probesBySlot(8));
            for (int key : ABSENT) {
                Check.throwsExactly("24 probesBySlot " + key, ELEMENT, () -> lab.probesBySlot(key));
            }
        }
        HashLab lab = Labs.with(1, 9, 17);
        Check.equal("24 around the end", lab.probesBySlot(17), 3);
        lab.setKind(1);
        lab.put(25, 1);
        Check.equal("24 triangular", lab.probesBySlot(25), 4);
    }

    private static void promise25KeyAt() {
        HashLab lab = Labs.with(9999, 0, 500, 8, 7);
        lab.remove(7);
        int[] sorted = {0, 8, 500, 9999};
        for (int rank = 0; rank < sorted.length; rank++) {
            Check.equal("25 rank " + rank, lab.keyAt(rank), sorted[rank]);
        }
        for (int rank : new int[] {-1, 4, 5, 8, Integer.MIN_VALUE, Integer.MAX_VALUE}) {
            Check.throwsExactly("25 rank " + rank, ELEMENT, () -> lab.keyAt(rank));
        }
        Check.throwsExactly("25 no keys", ELEMENT, () -> new HashLab().keyAt(0));
    }

    private static void promise26HardestKey() {
        HashLab lab = new HashLab();
        Check.throwsExactly("26 no keys", ELEMENT, lab::hardestKey);
        Labs.putAll(lab, 16, 8);
        Check.equal("26 the one with more probes", lab.hardestKey(), 8);
        Labs.putAll(lab, 12, 4);
        Check.equal("26 the smallest of several", lab.hardestKey(), 4);
        lab.remove(4);
        lab.remove(8);
        Check.equal("26 one probe each", lab.hardestKey(), 12);
        HashLab twice = Labs.with(0, 8, 13, 21);
        Check.equal("26 the smallest, of which the other comes later", twice.hardestKey(), 8);
        twice.setLimit(90);
        Labs.putAll(twice, 16, 10);
        Check.equal("26 neither first nor last nor smallest", twice.hardestKey(), 16);
        twice.remove(8);
        Check.equal("26 tombstones keep its probes", twice.hardestKey(), 16);
        lab.remove(12);
        lab.remove(16);
        Check.throwsExactly("26 tombstones alone", ELEMENT, lab::hardestKey);
        lab.put(0, 0);
        Check.equal("26 key 0", lab.hardestKey(), 0);
    }
}
