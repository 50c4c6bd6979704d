/** Promises 41 to 43: output. */
final class OutputTest {

    private static final Class<IndexOutOfBoundsException> INDEX = IndexOutOfBoundsException.class;

    public static void main(String[] args) {
        promise41WriteSlots();
        promise42WriteKeys();
        promise42LongestLine();
        promise43CharAt();
        Check.end();
    }

    private static void promise41WriteSlots() {
        HashLab lab = Labs.with(0, 8, 16);
        Check.equal("41 length", lab.writeSlots(), 8);
        Check.equal("41 probes", Labs.slots(lab), "123.....");
        lab.remove(8);
        Check.equal("41 tombstone", Labs.slots(lab), "1x3.....");
        lab.clear();
        lab.setLimit(90);
        for (int key = 0; key < 12; key++) {
            lab.put(64 * key, 0);
        }
        Check.equal("41 length of 16", lab.writeSlots(), 16);
        Check.equal("41 more than nine probes", Labs.slots(lab), "123456789+++....");
    }

    private static void promise42WriteKeys() {
        HashLab lab = new HashLab();
        Check.equal("42 no keys", lab.writeKeys(), 0);
        Check.equal("42 empty line", Labs.keys(lab), "");
        lab.put(12, 0);
        lab.put(3, -7);
        Check.equal("42 length", lab.writeKeys(), 9);
        Check.equal("42 the document's example", Labs.keys(lab), "3=-7,12=0");
        lab.put(9999, -999);
        lab.put(0, 999);
        lab.put(1000, 10);
        lab.put(101, -100);
        Check.equal("42 all lengths of numbers", Labs.keys(lab), "0=999,3=-7,12=0,101=-100,1000=10,9999=-999");
        lab.remove(3);
        Check.equal("42 removed", Labs.keys(lab), "0=999,12=0,101=-100,1000=10,9999=-999");
    }

    private static void promise42LongestLine() {
        HashLab lab = new HashLab();
        lab.setLimit(90);
        for (int key = 9999; key > 9999 - 57; key--) {
            lab.put(key, -999);
        }
        int length = lab.writeKeys();
        Check.equal("42 longest line", length, 57 * 10 - 1);
        StringBuilder end = new StringBuilder();
        for (int index = length - 10; index < length; index++) {
            end.append(lab.charAt(index));
        }
        Check.equal("42 its end", end.toString(), ",9999=-999");
    }

    private static void promise43CharAt() {
        HashLab lab = new HashLab();
        Check.throwsExactly("43 empty at first", INDEX, () -> lab.charAt(0));
        lab.put(5, 4);
        Check.throwsExactly("43 a put writes nothing", INDEX, () -> lab.charAt(0));
        lab.writeSlots();
        Check.equal("43 last", lab.charAt(7), '.');
        Check.equal("43 full slot", lab.charAt(3), '1');
        lab.remove(5);
        Check.equal("43 the line stays", lab.charAt(3), '1');
        lab.undo();
        lab.writeKeys();
        Check.equal("43 replaced", lab.charAt(2), '4');
        for (int index : new int[] {-1, 3, 7, Integer.MIN_VALUE, Integer.MAX_VALUE}) {
            Check.throwsExactly("43 index " + index, INDEX, () -> lab.charAt(index));
        }
        lab.clear();
        Check.equal("43 the line stays after clear", lab.charAt(0), '5');
        lab.writeKeys();
        Check.throwsExactly("43 empty again", INDEX, () -> lab.charAt(0));
    }
}
