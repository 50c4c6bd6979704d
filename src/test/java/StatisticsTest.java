/** Promises 34 to 40: statistics and trials. */
final class StatisticsTest {

    private static final Class<IllegalArgumentException> ARGUMENT = IllegalArgumentException.class;
    private static final Class<ArithmeticException> ARITHMETIC = ArithmeticException.class;

    public static void main(String[] args) {
        promises34And35MeanProbes();
        promises36And37Load();
        promises34To37Bits();
        promises34To37BitsWithTombstones();
        promise38Trial();
        promise38TrialsFromManyStarts();
        promise38TrialOfGreatNumbers();
        promise38TrialSettings();
        promise39BestKind();
        promises38And39OutOfRange();
        promise40IsConsistent();
        Check.end();
    }

    private static void promises34And35MeanProbes() {
        HashLab lab = new HashLab();
        Check.throwsExactly("34 no keys", ARITHMETIC, lab::meanProbes);
        Check.throwsExactly("35 no keys", ARITHMETIC, lab::meanProbesBits);
        Labs.putAll(lab, 0, 8, 16, 3);
        Check.equal("34 seven by four", lab.meanProbes(), 1.75);
        lab.remove(8);
        Check.equal("34 five by three", lab.meanProbes(), 5.0 / 3.0);
        Check.equal("35 five by three", lab.meanProbesBits(), Double.doubleToLongBits(5.0 / 3.0));
        lab.remove(0);
        lab.remove(16);
        Check.equal("34 one", lab.meanProbes(), 1.0);
        Check.equal("35 one", lab.meanProbesBits(), 0x3FF0000000000000L);
        lab.remove(3);
        Check.throwsExactly("34 tombstones alone", ARITHMETIC, lab::meanProbes);
        Check.throwsExactly("35 tombstones alone", ARITHMETIC, lab::meanProbesBits);
    }

    private static void promises36And37Load() {
        HashLab lab = new HashLab();
        Check.equal("36 none", lab.load(), 0.0f);
        Check.equal("37 none", lab.loadBits(), 0);
        Labs.putAll(lab, 1, 2, 3);
        Check.equal("36 three of eight", lab.load(), 0.375f);
        Check.equal("37 three of eight", lab.loadBits(), 0x3EC00000);
        lab.remove(3);
        Check.equal("36 tombstones do not count", lab.load(), 0.25f);
        lab.remove(2);
        Check.equal("36 one of eight", lab.load(), 0.125f);
    }

    /** Goes over all loads, up to a table with one long cluster, whose mean is great. */
    private static void promises34To37Bits() {
        for (int kind = 0; kind < 3; kind++) {
            HashLab lab = new HashLab();
            lab.setKind(kind);
            lab.setLimit(90);
            for (int keys = 1; keys <= 57; keys++) {
                lab.put(64 * keys, 0);
                Check.equal("36 " + keys + " keys", lab.load(), (float) keys / (float) lab.capacity());
                bitsAgree(lab, keys + " keys");
            }
            if (kind == 0) {
                Check.equal("34 one cluster", lab.meanProbes(), 29.0);
            }
        }
    }

    private static void promises34To37BitsWithTombstones() {
        for (int kind = 0; kind < 3; kind++) {
            HashLab lab = new HashLab();
            lab.setKind(kind);
            lab.setLimit(90);
            for (int key = 0; key < 57; key++) {
                lab.put(64 * key, 0);
            }
            for (int key = 0; key < 56; key++) {
                lab.remove(64 * key);
                bitsAgree(lab, (56 - key) + " keys left");
            }
        }
    }

    private static void bitsAgree(HashLab lab, String what) {
        Check.equal("37 " + what, lab.loadBits(), Float.floatToIntBits(lab.load()));
        Check.equal("35 " + what, lab.meanProbesBits(), Double.doubleToLongBits(lab.meanProbes()));
    }

    /** From 1 the keys are 196, 6897, 4290, 7383, 823 and 2733, at home in 4, 7, 6, 1, 1 and 3 of 8 slots. */
    private static void promise38Trial() {
        HashLab lab = new HashLab();
        int[] sums = {1, 2, 3, 4, 6, 7};
        for (int count = 1; count <= sums.length; count++) {
            Check.equal("38 " + count + " keys from 1", lab.trial(0, 1, count), sums[count - 1]);
        }
        Check.equal("38 forty keys, greatest start", lab.trial(0, 10006, 40), new Model().trial(0, 10006, 40));
        Check.equal("38 nothing changed", Labs.state(lab), Labs.state(new HashLab()));
        Check.throwsExactly("38 is no change", IllegalStateException.class, lab::undo);
    }

    private static void promise38TrialsFromManyStarts() {
        for (int start = 0; start < 10007; start += 97) {
            HashLab lab = new HashLab();
            Model model = new Model();
            for (int kind = 0; kind < 3; kind++) {
                for (int count = 1; count <= 40; count += 13) {
                    Check.equal("38 trial " + kind + " " + start + " " + count, lab.trial(kind, start, count),
                            model.trial(kind, start, count));
                }
            }
        }
    }

    /** The starts from which the first number is 10000 or more, and so the first key is 0 to 6. */
    private static void promise38TrialOfGreatNumbers() {
        int starts = 0;
        for (int start = 0; start < 10007; start++) {
            if ((137 * start + 59) % 10007 >= 10000) {
                HashLab lab = new HashLab();
                Model model = new Model();
                starts++;
                for (int kind = 0; kind < 3; kind++) {
                    for (int count = 1; count <= 40; count++) {
                        Check.equal("38 great number, trial " + kind + " " + start + " " + count,
                                lab.trial(kind, start, count), model.trial(kind, start, count));
                    }
                }
            }
        }
        Check.equal("38 seven such starts", starts, 7);
    }

    private static void promise38TrialSettings() {
        HashLab lab = Labs.with(1, 2, 3, 4, 5, 6);
        lab.setSeed(12);
        lab.setLimit(90);
        lab.remove(6);
        Model model = new Model();
        model.setSeed(12);
        model.setLimit(90);
        String state = Labs.state(lab);
        for (int kind = 0; kind < 3; kind++) {
            Check.equal("38 seed and limit, kind " + kind, lab.trial(kind, 77, 40), model.trial(kind, 77, 40));
        }
        lab.setLimit(25);
        model.setLimit(25);
        Check.equal("38 keys that cannot be put", lab.trial(0, 5, 40), model.trial(0, 5, 40));
        lab.setLimit(90);
        Check.equal("38 nothing changed", Labs.state(lab), state);
    }

    private static void promise39BestKind() {
        Check.equal("39 of several the smallest", new HashLab().bestKind(1, 1), 0);
        boolean[] seen = new boolean[3];
        for (int start = 0; start < 10007; start += 31) {
            HashLab lab = new HashLab();
            int best = 0;
            for (int kind = 1; kind < 3; kind++) {
                best = lab.trial(kind, start, 40) < lab.trial(best, start, 40) ? kind : best;
            }
            Check.equal("39 start " + start, lab.bestKind(start, 40), best);
            seen[best] = true;
            Check.equal("39 nothing changed", Labs.state(lab), "8/0/0/70/0/0/0/0:||||||||");
        }
        Check.isTrue("39 each kind wins somewhere", seen[0] && seen[1] && seen[2]);
    }

    private static void promises38And39OutOfRange() {
        HashLab lab = new HashLab();
        int[][] wrong = {{-1, 1}, {10007, 1}, {0, 0}, {0, 41}, {0, -1}, {Integer.MIN_VALUE, 1},
            {Integer.MAX_VALUE, 1}, {0, Integer.MIN_VALUE}, {0, Integer.MAX_VALUE}};
        for (int[] pair : wrong) {
            Check.throwsExactly("38 trial " + pair[0] + " " + pair[1], ARGUMENT,
                    () -> lab.trial(0, pair[0], pair[1]));
            Check.throwsExactly("39 bestKind " + pair[0] + " " + pair[1], ARGUMENT,
                    () -> lab.bestKind(pair[0], pair[1]));
        }
        for (int kind : new int[] {-1, 3, Integer.MIN_VALUE, Integer.MAX_VALUE}) {
            Check.throwsExactly("38 kind " + kind, ARGUMENT, () -> lab.trial(kind, 0, 1));
        }
    }

    private static void promise40IsConsistent() {
        for (int kind = 0; kind < 3; kind++) {
            HashLab lab = new HashLab();
            Check.isTrue("40 empty", lab.isConsistent());
            lab.setLimit(90);
            lab.setKind(kind);
            for (int key = 0; key < 57; key++) {
                lab.put(64 * key + kind, key);
                Check.isTrue("40 with " + (key + 1) + " keys", lab.isConsistent());
            }
            for (int key = 0; key < 57; key += 2) {
                lab.remove(64 * key + kind);
            }
            String state = Labs.state(lab);
            Check.isTrue("40 with tombstones", lab.isConsistent());
            Check.equal("40 nothing changed", Labs.state(lab), state);
        }
    }
}
