import java.lang.reflect.Field;

/**
 * Promise 40, from within: no calls lead to a table whose invariants do not hold, so the table's own fields are spoilt
 * here by reflection. The names of these fields are the class's private ones; who changes them changes this test.
 */
final class ConsistencyTest {

    public static void main(String[] args) throws ReflectiveOperationException {
        Check.sentence("40", "Returns true if the invariants hold. (and false if not)");
        keyBeyondAnEmptySlot();
        keyAheadOfItsHome();
        keyContainedTwice();
        keyThatIsLostByRebuilding();
        sequenceThatMissesSlots();
        Check.end();
    }

    private static Object table(HashLab lab) throws ReflectiveOperationException {
        Field field = HashLab.class.getDeclaredField("table");
        field.setAccessible(true);
        return field.get(lab);
    }

    private static Field field(Object table, String name) throws ReflectiveOperationException {
        Field field = table.getClass().getDeclaredField(name);
        field.setAccessible(true);
        return field;
    }

    private static int[] keys(HashLab lab) throws ReflectiveOperationException {
        return (int[]) field(table(lab), "keys").get(table(lab));
    }

    private static void move(int[] keys, int from, int to) {
        keys[to] = keys[from];
        keys[from] = keys[7];
    }

    private static void keyBeyondAnEmptySlot() throws ReflectiveOperationException {
        for (int kind = 0; kind < 3; kind++) {
            HashLab lab = Labs.atHomes(0, 3);
            lab.setKind(kind);
            Check.isTrue("before, kind " + kind, lab.isConsistent());
            move(keys(lab), 3, 5);
            Check.isFalse("a key beyond an empty slot, kind " + kind, lab.isConsistent());
        }
    }

    private static void keyAheadOfItsHome() throws ReflectiveOperationException {
        HashLab lab = Labs.atHomes(0, 3);
        move(keys(lab), 0, 6);
        Check.isFalse("a key ahead of its home, which was in the first slot", lab.isConsistent());
    }

    private static void keyContainedTwice() throws ReflectiveOperationException {
        HashLab lab = Labs.atHomes(0, 0, 0);
        keys(lab)[2] = keys(lab)[0];
        Check.isFalse("a key that is contained twice", lab.isConsistent());
    }

    private static void keyThatIsLostByRebuilding() throws ReflectiveOperationException {
        HashLab lab = Labs.atHomes(0, 3);
        field(table(lab), "full").setInt(table(lab), 3);
        Check.isFalse("a key that is counted, but in no slot", lab.isConsistent());
        field(table(lab), "full").setInt(table(lab), 2);
        Check.isTrue("counted as they are", lab.isConsistent());
    }

    private static void sequenceThatMissesSlots() throws ReflectiveOperationException {
        HashLab lab = Labs.atHomes(0);
        field(table(lab), "capacity").setInt(table(lab), 7);
        Check.isFalse("a capacity of which a sequence reaches half the slots", lab.isConsistent());
        field(table(lab), "capacity").setInt(table(lab), 8);
        Check.isTrue("the capacity as it is", lab.isConsistent());
    }
}
