import java.util.function.Consumer;
import java.util.function.Supplier;

/** What several tests do with a laboratory. */
final class Labs {

    private Labs() {
    }

    /** Makes a laboratory with these keys, each with its own number as value. */
    static HashLab with(int... keys) {
        HashLab lab = new HashLab();
        putAll(lab, keys);
        return lab;
    }

    static void putAll(HashLab lab, int... keys) {
        for (int key : keys) {
            lab.put(key, key % 1000);
        }
    }

    /** Makes a laboratory of 8 slots, at the limit of 90, with keys that are at home in these slots. */
    static HashLab atHomes(int... homes) {
        HashLab lab = new HashLab();
        lab.setLimit(90);
        putAll(lab, Keys.atHomes(8, homes));
        return lab;
    }

    /** Makes a laboratory without used slots, at the limit of 90, that has grown to a capacity. */
    static HashLab emptyOf(int capacity) {
        HashLab lab = new HashLab();
        lab.setLimit(25);
        int keys = 0;
        while (lab.capacity() < capacity) {
            lab.put(keys, 0);
            keys++;
        }
        for (int key = 0; key < keys; key++) {
            lab.remove(key);
        }
        lab.rebuild();
        lab.setLimit(90);
        return lab;
    }

    /** Makes a laboratory of 64 slots with 57 keys, 0 to 56, which are the most that a table can contain. */
    static HashLab fullest() {
        HashLab lab = new HashLab();
        lab.setLimit(90);
        for (int key = 0; key < 57; key++) {
            lab.put(key, 0);
        }
        return lab;
    }

    /** Makes a laboratory of 8 slots with the keys 1 to 5, in which no new key can be put. */
    static HashLab crowded() {
        HashLab lab = with(1, 2, 3, 4, 5);
        lab.setLimit(25);
        return lab;
    }

    /** Makes a laboratory of which all that a call could change is otherwise than in a new one. */
    static HashLab busy() {
        HashLab lab = new HashLab();
        lab.setLimit(75);
        lab.setKind(2);
        putAll(lab, 1, 2, 3);
        lab.remove(2);
        lab.save();
        outcome(() -> run(lab, "put 1="));
        outcome(() -> run(lab, "clear;remove 2"));
        lab.put(0, -9);
        lab.setSeed(8);
        lab.remove(3);
        lab.writeKeys();
        type(lab, "put 5=5;remove 1");
        return lab;
    }

    /** Removes all keys, so that tombstones alone are left. */
    static HashLab buried(HashLab lab) {
        while (lab.size() > 0) {
            lab.remove(lab.keyAt(0));
        }
        return lab;
    }

    static void type(HashLab lab, String text) {
        for (char sign : text.toCharArray()) {
            lab.type(sign);
        }
    }

    static int run(HashLab lab, String text) {
        type(lab, text);
        return lab.run();
    }

    static String slots(HashLab lab) {
        return line(lab, lab.writeSlots());
    }

    static String keys(HashLab lab) {
        return line(lab, lab.writeKeys());
    }

    static String line(HashLab lab, int length) {
        StringBuilder text = new StringBuilder();
        for (int index = 0; index < length; index++) {
            text.append(lab.charAt(index));
        }
        return text.toString();
    }

    /** All of the state that undo, save and restore speak of: the numbers, and then each slot. */
    static String state(HashLab lab) {
        int capacity = lab.capacity();
        StringBuilder text = new StringBuilder();
        text.append(capacity).append('/').append(lab.kind()).append('/').append(lab.seed());
        text.append('/').append(lab.limit()).append('/').append(lab.rebuilds()).append('/').append(lab.growths());
        text.append('/').append(lab.size()).append('/').append(lab.tombstones()).append(':');
        for (int slot = 0; slot < capacity; slot++) {
            text.append(content(lab, slot)).append('|');
        }
        return text.toString();
    }

    /** The call must throw, and leave its laboratory like another one that was made in the same way. */
    static void refused(String what, Class<? extends RuntimeException> due, Supplier<HashLab> maker,
            Consumer<HashLab> call) {
        HashLab lab = maker.get();
        Check.throwsExactly(what, due, () -> call.accept(lab));
        Check.equal(what + " changed something and", everything(lab), everything(maker.get()));
    }

    /** The call must not throw, and leave its laboratory like another one that was made in the same way. */
    static void changesNothing(String what, Supplier<HashLab> maker, Consumer<HashLab> call) {
        HashLab lab = maker.get();
        call.accept(lab);
        Check.equal(what + " changed something and", everything(lab), everything(maker.get()));
    }

    /** All that can be seen of a laboratory, which is used up by that; its table must be a small one. */
    static String everything(HashLab lab) {
        StringBuilder text = new StringBuilder(wholeLine(lab));
        text.append("; ").append(state(lab)).append(records(lab));
        text.append("; run ").append(outcome(lab::run)).append(' ').append(state(lab)).append(records(lab));
        for (String left = outcome(lab::undo); !left.startsWith("throws"); left = outcome(lab::undo)) {
            text.append("; undo ").append(left).append(' ').append(state(lab));
        }
        return text.append("; restore ").append(outcome(lab::restore)).append(' ').append(state(lab)).toString();
    }

    private static String wholeLine(HashLab lab) {
        StringBuilder text = new StringBuilder();
        while (text.length() < 640) {
            try {
                text.append(lab.charAt(text.length()));
            } catch (IndexOutOfBoundsException end) {
                return text.toString();
            }
        }
        return text.toString();
    }

    private static String records(HashLab lab) {
        return " error " + outcome(lab::errorPosition) + " failed " + outcome(lab::failedCommand);
    }

    /** The answer, or the name of the exception. */
    static String outcome(Supplier<Object> call) {
        try {
            return String.valueOf(call.get());
        } catch (RuntimeException thrown) {
            return "throws." + thrown.getClass().getSimpleName();
        }
    }

    private static String content(HashLab lab, int slot) {
        if (lab.isFull(slot)) {
            int key = lab.keyIn(slot);
            return key + "=" + lab.get(key);
        }
        return lab.isTombstone(slot) ? "x" : "";
    }
}
