/** Boundary cases of promises 41 to 43, sentence by sentence. */
final class BoundaryOutputTest {

    private static final Class<IndexOutOfBoundsException> INDEX = IndexOutOfBoundsException.class;

    public static void main(String[] args) {
        promise41DocumentsExample();
        promise41NineAndTen();
        promise41Length();
        promise41ReplacesOldContent();
        promise42DocumentsExample();
        promise42LeastAndGreatest();
        promise42AscendingNotBySlot();
        promise42NoKeys();
        promise42LongestLine();
        promise42ReplacesOldContent();
        promise43InitiallyEmpty();
        promise43FirstAndLast();
        promise43IndexOutOfRange();
        promise43TheLineStays();
        promises41To43ChangeNothingElse();
        Check.end();
    }

    private static HashLab oneCluster(int keys) {
        HashLab lab = new HashLab();
        lab.setLimit(90);
        for (int n = 0; n < keys; n++) {
            lab.put(64 * n, 0);
        }
        return lab;
    }

    private static void promise41DocumentsExample() {
        Check.sentence("41", "\".\" for an empty slot, \"x\" for a tombstone, and for a full slot the number of probes of"
                + " its key, or \"+\" if this number is greater than 9; for example \"1.12x...\".");
        HashLab lab = Labs.atHomes(0, 2, 2, 4);
        lab.remove(Keys.at(8, 4, 0));
        Check.equal("the document's example", Labs.slots(lab), "1.12x...");
        Check.equal("an empty table", Labs.slots(new HashLab()), "........");
        HashLab graves = Labs.buried(Labs.atHomes(0, 1, 2, 3, 4, 5, 7));
        Check.equal("tombstones alone", Labs.slots(graves), "xxxxxx.x");
        Check.equal("around the end", Labs.slots(Labs.atHomes(6, 6, 6, 6)), "34....12");
    }

    private static void promise41NineAndTen() {
        Check.sentence("41", "the number of probes of its key, or \"+\" if this number is greater than 9");
        Check.equal("nine", Labs.slots(oneCluster(9)), "123456789.......");
        Check.equal("ten", Labs.slots(oneCluster(10)), "123456789+......");
        HashLab lab = oneCluster(12);
        for (int n = 0; n < 9; n++) {
            lab.remove(64 * n);
        }
        Check.equal("ten behind nine tombstones", Labs.slots(lab), "xxxxxxxxx+++....");
        lab.remove(64 * 9);
        lab.put(64 * 11, 1);
        Check.equal("a replaced value", Labs.slots(lab), "xxxxxxxxxx++....");
        Check.equal("57", Labs.slots(oneCluster(57)), "123456789" + "+".repeat(48) + ".".repeat(7));
    }

    private static void promise41Length() {
        Check.sentence("41", "Returns the length of the line.");
        for (int capacity : new int[] {8, 16, 32, 64}) {
            HashLab lab = Labs.emptyOf(capacity);
            Check.equal("capacity " + capacity, lab.writeSlots(), capacity);
            Check.equal("last of " + capacity, lab.charAt(capacity - 1), '.');
            Check.throwsExactly("behind the last of " + capacity, INDEX, () -> lab.charAt(capacity));
        }
    }

    private static void promise41ReplacesOldContent() {
        Check.sentence("41", "Writes the slots to the output line, which replaces its old content");
        HashLab lab = Labs.fullest();
        lab.writeKeys();
        Check.equal("64 after the keys", lab.writeSlots(), 64);
        Check.throwsExactly("nothing is left of them", INDEX, () -> lab.charAt(64));
        lab.clear();
        Check.equal("8 after 64", lab.writeSlots(), 8);
        Check.equal("the last", lab.charAt(7), '.');
        Check.throwsExactly("nothing is left of 64", INDEX, () -> lab.charAt(8));
    }

    private static void promise42DocumentsExample() {
        Check.sentence("42", "the keys in ascending order, each with \"=\" and its value, with a comma between two; for"
                + " example \"3=-7,12=0\".");
        HashLab lab = new HashLab();
        lab.put(12, 0);
        lab.put(3, -7);
        Check.equal("length", lab.writeKeys(), 9);
        Check.equal("the document's example", Labs.line(lab, 9), "3=-7,12=0");
        lab.remove(12);
        Check.equal("one key without a comma", Labs.keys(lab), "3=-7");
    }

    private static void promise42LeastAndGreatest() {
        Check.sentence("42", "each with \"=\" and its value (at their least and greatest)");
        int[] keys = {0, 9, 10, 99, 100, 999, 1000, 9999};
        int[] values = {-999, -100, -99, -10, -9, -1, 0, 1, 9, 10, 99, 100, 999};
        for (int key : keys) {
            HashLab lab = new HashLab();
            for (int value : values) {
                lab.put(key, value);
                Check.equal(key + "=" + value, Labs.keys(lab), key + "=" + value);
            }
        }
    }

    private static void promise42AscendingNotBySlot() {
        Check.sentence("42", "the keys in ascending order");
        HashLab lab = new HashLab();
        for (int key : Keys.atHomes(8, 7, 7, 7, 0)) {
            lab.put(key, key);
        }
        lab.remove(Keys.at(8, 7, 1));
        Check.equal("a cluster around the end, with a tombstone", Labs.keys(lab), "0=0,1=1,17=17");
        lab.put(9999, 1);
        lab.put(1000, 2);
        Check.equal("by number, not by sign", Labs.keys(lab), "0=0,1=1,17=17,1000=2,9999=1");
    }

    private static void promise42NoKeys() {
        Check.sentence("42", "The line is empty if there are no keys.");
        HashLab lab = new HashLab();
        Check.equal("an empty table", lab.writeKeys(), 0);
        Check.throwsExactly("no character", INDEX, () -> lab.charAt(0));
        HashLab graves = Labs.atHomes(0, 1, 2, 3, 4, 5, 6);
        graves.writeKeys();
        Labs.buried(graves);
        Check.equal("tombstones alone", graves.writeKeys(), 0);
        Check.throwsExactly("nothing is left of the old line", INDEX, () -> graves.charAt(0));
    }

    private static void promise42LongestLine() {
        Check.sentence("42", "Returns the length of the line.");
        HashLab lab = new HashLab();
        lab.setLimit(90);
        for (int key = 9999; key > 9999 - 57; key--) {
            lab.put(key, -999);
        }
        Check.equal("57 keys of four digits, values of three and a sign", lab.writeKeys(), 569);
        String first = "9943=-999,";
        String last = ",9999=-999";
        for (int index = 0; index < 10; index++) {
            Check.equal("its first ten, " + index, lab.charAt(index), first.charAt(index));
            Check.equal("its last ten, " + index, lab.charAt(559 + index), last.charAt(index));
        }
        Check.throwsExactly("behind the last", INDEX, () -> lab.charAt(569));
        Check.equal("57 keys, the shortest line", Labs.fullest().writeKeys(), 10 * 4 + 47 * 5 - 1);
    }

    private static void promise42ReplacesOldContent() {
        Check.sentence("42", "Writes the keys to the output line, which replaces its old content");
        HashLab lab = Labs.with(9999, 8);
        lab.writeKeys();
        lab.remove(9999);
        Check.equal("shorter than before", lab.writeKeys(), 3);
        Check.equal("the last", lab.charAt(2), '8');
        Check.throwsExactly("nothing is left of the old line", INDEX, () -> lab.charAt(3));
        lab.writeSlots();
        lab.writeKeys();
        Check.throwsExactly("nothing is left of the slots", INDEX, () -> lab.charAt(3));
    }

    private static void promise43InitiallyEmpty() {
        Check.sentence("43", "Returns a character of the output line, which is initially empty.");
        for (int index : new int[] {0, 7, -1}) {
            Labs.refused("index " + index, INDEX, HashLab::new, lab -> lab.charAt(index));
            Labs.refused("before a line is written, index " + index, INDEX, Labs::crowded, lab -> lab.charAt(index));
        }
    }

    private static void promise43FirstAndLast() {
        Check.sentence("43", "`index`: the index, counted from 0");
        HashLab lab = new HashLab();
        lab.put(3, -7);
        lab.put(12, 0);
        lab.writeKeys();
        Check.equal("first", lab.charAt(0), '3');
        Check.equal("last", lab.charAt(8), '0');
        Check.equal("minus", lab.charAt(2), '-');
        Check.equal("comma", lab.charAt(4), ',');
    }

    private static void promise43IndexOutOfRange() {
        Check.sentence("43", "Throws `IndexOutOfBoundsException` if the index is negative or not less than the length");
        for (int index : new int[] {-1, 8, 9, 64, 639, 640, Integer.MIN_VALUE, Integer.MAX_VALUE}) {
            Labs.refused("the keys, index " + index, INDEX, Labs::busy, lab -> lab.charAt(index));
            Labs.refused("the slots, index " + index, INDEX, () -> {
                HashLab lab = Labs.busy();
                lab.writeSlots();
                return lab;
            }, lab -> lab.charAt(index));
        }
        Check.equal("the busy table's last character", Labs.busy().charAt(7), '1');
    }

    private static void promise43TheLineStays() {
        Check.sentence("43", "Returns the character. (of the line as it was written)");
        HashLab lab = Labs.with(5);
        lab.writeKeys();
        lab.put(5, 9);
        lab.clear();
        lab.undo();
        lab.save();
        lab.restore();
        Labs.run(lab, "clear");
        Labs.outcome(() -> Labs.run(lab, "limit 1"));
        Labs.outcome(() -> Labs.run(lab, "x"));
        Check.equal("after changes", lab.charAt(2), '5');
        Check.throwsExactly("its length", INDEX, () -> lab.charAt(3));
    }

    private static void promises41To43ChangeNothingElse() {
        Check.sentence("41 to 43", "Nothing is promised beyond the answers and state changes described above");
        Labs.changesNothing("writeKeys, whose line it is already", Labs::busy, HashLab::writeKeys);
        Labs.changesNothing("writeSlots, and then the keys again", Labs::busy, lab -> {
            lab.writeSlots();
            lab.writeKeys();
        });
        Labs.changesNothing("charAt", Labs::busy, lab -> lab.charAt(0));
    }
}
