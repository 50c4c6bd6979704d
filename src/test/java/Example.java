import java.util.NoSuchElementException;

/** How a HashLab is used: each printed line is the one in the comment behind its call. README.md shows this file. */
final class Example {

    public static void main(String[] arguments) {
        HashLab lab = new HashLab();

        System.out.println(lab.put(0, 5));              // true: the key is new
        System.out.println(lab.put(8, -7));             // true
        System.out.println(lab.put(0, 6));              // false: key 0 was contained, its value is replaced
        System.out.println(lab.get(0));                 // 6
        System.out.println(lab.slotOf(8));              // 1: its home is slot 0, where key 0 is
        System.out.println(lab.probes(8));              // 2
        System.out.println(lab.meanProbes());           // 1.5
        System.out.println(lab.load());                 // 0.25: 2 keys in 8 slots

        System.out.println(line(lab, lab.writeSlots()));   // 12......
        System.out.println(line(lab, lab.writeKeys()));    // 0=6,8=-7

        try {
            lab.remove(9);
        } catch (NoSuchElementException thrown) {
            System.out.println("key 9 is not contained");  // key 9 is not contained
        }

        enter(lab, "remove 8;limit 80");
        System.out.println(lab.run());                  // 2: both commands were executed
        System.out.println(line(lab, lab.writeSlots()));   // 1x......
        System.out.println(lab.undo());                 // 3: the whole program is undone, three puts are left
        System.out.println(lab.get(8));                 // -7
        System.out.println(lab.limit());                // 70

        enter(lab, "put 1=2;put 3");
        try {
            lab.run();
        } catch (IllegalArgumentException thrown) {
            System.out.println(lab.errorPosition());    // 13: "=" is missing at the end
        }

        enter(lab, "put 1=2;limit 99");
        try {
            lab.run();
        } catch (UnsupportedOperationException thrown) {
            System.out.println(lab.failedCommand());    // 1: there is no limit 99
        }
        System.out.println(lab.contains(1));            // false: if one command fails, none is executed

        System.out.println(lab.save());                 // 2: the keys of the saved state
        System.out.println(lab.clear());                // 2: the keys that were contained
        System.out.println(lab.restore());              // 2: they are back
        System.out.println(lab.trial(2, 0, 40));        // 80: the probes of 40 searches, by double hashing
        System.out.println(lab.bestKind(0, 40));        // 2: double hashing needs the fewest of them
    }

    /** Types a program; run() executes it. */
    private static void enter(HashLab lab, String program) {
        for (char sign : program.toCharArray()) {
            lab.type(sign);
        }
    }

    /** Reads the output line, whose length writeSlots() and writeKeys() return. */
    private static String line(HashLab lab, int length) {
        StringBuilder text = new StringBuilder();
        for (int index = 0; index < length; index++) {
            text.append(lab.charAt(index));
        }
        return text.toString();
    }
}
