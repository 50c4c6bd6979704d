/** Promises 9 to 17: properties of the table. */
final class PropertiesTest {

    public static void main(String[] args) {
        promises9To11Counts();
        promises12To14Settings();
        promises15And16Counters();
        promise17IsNearLimit();
        Check.end();
    }

    private static void promises9To11Counts() {
        HashLab lab = new HashLab();
        Check.equal("9 empty", lab.size(), 0);
        Check.equal("10 empty", lab.capacity(), 8);
        Check.equal("11 empty", lab.tombstones(), 0);
        Labs.putAll(lab, 1, 2, 3);
        lab.put(3, 0);
        Check.equal("9 three keys", lab.size(), 3);
        lab.remove(1);
        lab.remove(2);
        Check.equal("9 two removed", lab.size(), 1);
        Check.equal("11 two removed", lab.tombstones(), 2);
        lab.put(1, 1);
        Check.equal("11 one used again", lab.tombstones(), 1);
        lab.clear();
        Check.equal("11 cleared", lab.tombstones(), 0);
        int[] capacities = {8, 8, 8, 8, 8, 16, 16, 16, 16, 16, 16, 32, 32};
        for (int index = 0; index < capacities.length; index++) {
            lab.put(100 + index, 0);
            Check.equal("10 with " + (index + 1) + " keys", lab.capacity(), capacities[index]);
        }
        for (int index = capacities.length; index < 44; index++) {
            lab.put(100 + index, 0);
        }
        Check.equal("9 most keys at 70", lab.size(), 44);
        Check.equal("10 most keys at 70", lab.capacity(), 64);
    }

    private static void promises12To14Settings() {
        HashLab lab = new HashLab();
        Check.equal("12 first", lab.kind(), 0);
        Check.equal("13 first", lab.seed(), 0);
        Check.equal("14 first", lab.limit(), 70);
        lab.setKind(2);
        lab.setSeed(999);
        lab.setLimit(25);
        Check.equal("12 set", lab.kind(), 2);
        Check.equal("13 set", lab.seed(), 999);
        Check.equal("14 set", lab.limit(), 25);
    }

    private static void promises15And16Counters() {
        HashLab lab = new HashLab();
        Check.equal("15 first", lab.rebuilds(), 0);
        Check.equal("16 first", lab.growths(), 0);
        lab.rebuild();
        lab.setKind(1);
        lab.setSeed(1);
        lab.setLimit(71);
        lab.clear();
        Check.equal("15 by rebuild, kind and seed", lab.rebuilds(), 3);
        Check.equal("16 none of them", lab.growths(), 0);
        Labs.putAll(lab, 1, 2, 3, 4, 5);
        lab.remove(1);
        lab.remove(2);
        lab.remove(3);
        lab.remove(4);
        lab.put(6, 6);
        Check.equal("15 by put with the same capacity", lab.rebuilds(), 4);
        Check.equal("16 not by that", lab.growths(), 0);
        Labs.putAll(lab, 1, 2, 3, 4);
        Check.equal("15 by put with a greater one", lab.rebuilds(), 5);
        Check.equal("16 by that", lab.growths(), 1);
        lab.clear();
        Check.equal("15 not by clear", lab.rebuilds(), 5);
        HashLab dense = Labs.with(1, 2, 3, 4, 5);
        dense.setLimit(25);
        Check.throwsExactly("2 no room", IllegalStateException.class, () -> dense.put(6, 6));
        Check.equal("15 not by a put that fails", dense.rebuilds(), 0);
        Check.equal("16 not by a put that fails", dense.growths(), 0);
    }

    private static void promise17IsNearLimit() {
        HashLab lab = Labs.with(1, 2, 3, 4);
        Check.isFalse("17 four and one of eight at 70", lab.isNearLimit());
        lab.put(5, 5);
        Check.isTrue("17 five and one of eight at 70", lab.isNearLimit());
        lab.setLimit(75);
        Check.isFalse("17 just at 75", lab.isNearLimit());
        lab.setLimit(74);
        Check.isTrue("17 just above 74", lab.isNearLimit());
        lab.remove(5);
        Check.isTrue("17 tombstones count", lab.isNearLimit());
        lab.rebuild();
        Check.isFalse("17 rebuilt", lab.isNearLimit());
        lab.setLimit(25);
        Check.isTrue("17 a key could not be put", lab.isNearLimit());
        Check.equal("17 changes nothing", lab.rebuilds(), 1);
    }
}
