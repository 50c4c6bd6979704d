/** What several tests do with a laboratory. */
final class Labs {

    private Labs() {
    }

    /** Makes a laboratory with these keys, each with its own number as value. */
    static HashLab with(int... keys) {
        HashLab lab = new HashLab();
        putAll(lab, keys);
        return lab;
    }

    static void putAll(HashLab lab, int... keys) {
        for (int key : keys) {
            lab.put(key, key % 1000);
        }
    }

    static void type(HashLab lab, String text) {
        for (char sign : text.toCharArray()) {
            lab.type(sign);
        }
    }

    static int run(HashLab lab, String text) {
        type(lab, text);
        return lab.run();
    }

    static String slots(HashLab lab) {
        return line(lab, lab.writeSlots());
    }

    static String keys(HashLab lab) {
        return line(lab, lab.writeKeys());
    }

    static String line(HashLab lab, int length) {
        StringBuilder text = new StringBuilder();
        for (int index = 0; index < length; index++) {
            text.append(lab.charAt(index));
        }
        return text.toString();
    }

    /** All of the state that undo, save and restore speak of; it replaces the output line. */
    static String state(HashLab lab) {
        StringBuilder text = new StringBuilder();
        text.append(lab.capacity()).append('/').append(lab.kind()).append('/').append(lab.seed());
        text.append('/').append(lab.limit()).append('/').append(lab.rebuilds()).append('/').append(lab.growths());
        text.append('/').append(lab.size()).append('/').append(lab.tombstones()).append(':');
        for (int slot = 0; slot < lab.capacity(); slot++) {
            text.append(lab.isFull(slot) ? String.valueOf(lab.keyIn(slot)) : lab.isTombstone(slot) ? "x" : "");
            text.append('|');
        }
        return text.append(keys(lab)).toString();
    }
}
