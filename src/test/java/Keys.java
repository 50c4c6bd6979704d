/** Keys chosen by where the document's formulas send them, and those formulas. */
final class Keys {

    private Keys() {
    }

    static int hash(int key, int seed) {
        return (int) ((40503L * key + 9973L * seed) % 65536L);
    }

    static int home(int key, int seed, int capacity) {
        return hash(key, seed) % capacity;
    }

    /** The step for double hashing. */
    static int step(int key, int seed, int capacity) {
        return 2 * (hash(key, seed) / capacity % (capacity / 2)) + 1;
    }

    /** The key number n, counted from 0, of those that are at home in a slot without a seed. */
    static int at(int capacity, int home, int n) {
        int passed = 0;
        for (int key = 0; key <= 9999; key++) {
            if (home(key, 0, capacity) == home && passed++ == n) {
                return key;
            }
        }
        throw new IllegalStateException("no such key");
    }

    /** The same, of those that have this step for double hashing besides. */
    static int stepping(int capacity, int home, int step, int n) {
        int passed = 0;
        for (int key = 0; key <= 9999; key++) {
            if (home(key, 0, capacity) == home && step(key, 0, capacity) == step && passed++ == n) {
                return key;
            }
        }
        throw new IllegalStateException("no such key");
    }

    /** Different keys without a seed for these homes, in their order. */
    static int[] atHomes(int capacity, int... homes) {
        int[] taken = new int[capacity];
        int[] keys = new int[homes.length];
        for (int index = 0; index < homes.length; index++) {
            keys[index] = at(capacity, homes[index], taken[homes[index]]++);
        }
        return keys;
    }

    /** The homes from the first to the last, both of them included. */
    static int[] range(int first, int last) {
        int[] homes = new int[last - first + 1];
        for (int index = 0; index < homes.length; index++) {
            homes[index] = first + index;
        }
        return homes;
    }
}
