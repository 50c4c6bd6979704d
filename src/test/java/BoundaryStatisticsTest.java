/** Boundary cases of promises 34 to 40, sentence by sentence. */
final class BoundaryStatisticsTest {

    private static final Class<IllegalArgumentException> ARGUMENT = IllegalArgumentException.class;
    private static final Class<ArithmeticException> ARITHMETIC = ArithmeticException.class;
    private static final int[] CAPACITIES = {8, 16, 32, 64};
    /** The start at which 137 x + 59 mod 10007 is x again, so that all keys of a trial are the same. */
    private static final int FIXED_START = fixedStart();

    public static void main(String[] args) {
        promise34LeastAndGreatest();
        promise34Fractions();
        promise34NoKeys();
        promise35Bits();
        promise35NoKeys();
        promise36LeastAndGreatest();
        promise36TombstonesDoNotCount();
        promise37Bits();
        promise38LeastAndGreatest();
        promise38SmallNumbers();
        promise38KeysFromGreatNumbers();
        promise38KeyThatIsContained();
        promise38KeyThatCannotBePut();
        promise38SearchAheadOfTheRebuild();
        promise38UsesANewTable();
        promise38PresentSeedAndLimit();
        promise38ChangesNothing();
        promise38OutOfRange();
        promise39SmallestOfSeveral();
        promise39LeastAndGreatest();
        promise39OutOfRange();
        promise40Boundaries();
        promise40ChangesNothing();
        promises34To39ChangeNothing();
        Check.end();
    }

    private static int fixedStart() {
        int x = 0;
        while ((137 * x + 59) % 10007 != x) {
            x++;
        }
        return x;
    }

    /** The keys 64 n, which are all at home in slot 0 of every capacity. */
    private static HashLab oneCluster(int keys) {
        HashLab lab = new HashLab();
        lab.setLimit(90);
        for (int n = 0; n < keys; n++) {
            lab.put(64 * n, 0);
        }
        return lab;
    }

    private static HashLab graves() {
        return Labs.buried(Labs.atHomes(0, 1, 2, 3, 4, 5, 6));
    }

    private static void promise34LeastAndGreatest() {
        Check.sentence("34", "Returns the mean number.");
        Check.equal("one key", Labs.with(9999).meanProbes(), 1.0);
        Check.equal("seven keys at home", Labs.atHomes(0, 1, 2, 3, 4, 5, 6).meanProbes(), 1.0);
        Check.equal("seven keys in one cluster", oneCluster(7).meanProbes(), 4.0);
        Check.equal("57 keys in one cluster", oneCluster(57).meanProbes(), 29.0);
        HashLab last = oneCluster(57);
        for (int n = 0; n < 56; n++) {
            last.remove(64 * n);
        }
        Check.equal("the last of them, behind tombstones", last.meanProbes(), 57.0);
    }

    private static void promise34Fractions() {
        Check.sentence("34", "the sum of their numbers of probes divided by the number of keys, both converted to"
                + " double.");
        Check.equal("three by two", Labs.with(0, 8).meanProbes(), 1.5);
        HashLab thirds = Labs.with(0, 8, 3);
        Check.equal("four by three", thirds.meanProbes(), 4.0 / 3.0);
        HashLab sevenths = Labs.atHomes(0, 0, 2, 3, 4, 5, 6);
        Check.equal("eight by seven", sevenths.meanProbes(), 8.0 / 7.0);
        HashLab around = Labs.atHomes(7, 7, 7);
        Check.equal("six by three, around the end", around.meanProbes(), 2.0);
        around.remove(Keys.at(8, 7, 1));
        Check.equal("four by two, over a tombstone", around.meanProbes(), 2.0);
    }

    private static void promise34NoKeys() {
        Check.sentence("34", "Throws `ArithmeticException` if there are no keys");
        Labs.refused("an empty table", ARITHMETIC, HashLab::new, HashLab::meanProbes);
        Labs.refused("tombstones alone", ARITHMETIC, BoundaryStatisticsTest::graves, HashLab::meanProbes);
        HashLab cleared = Labs.busy();
        cleared.clear();
        Check.throwsExactly("a cleared table", ARITHMETIC, cleared::meanProbes);
    }

    private static void promise35Bits() {
        Check.sentence("35", "Returns the bits of the mean number of probes, as by Double.doubleToLongBits.");
        Check.equal("1", Labs.with(0).meanProbesBits(), 0x3FF0000000000000L);
        Check.equal("3/2", Labs.with(0, 8).meanProbesBits(), 0x3FF8000000000000L);
        Check.equal("4/3, whose bits are rounded", Labs.with(0, 8, 3).meanProbesBits(), 0x3FF5555555555555L);
        Check.equal("2", oneCluster(3).meanProbesBits(), 0x4000000000000000L);
        Check.equal("29", oneCluster(57).meanProbesBits(), 0x403D000000000000L);
        HashLab last = oneCluster(57);
        for (int n = 0; n < 56; n++) {
            last.remove(64 * n);
            Check.equal("the first " + (n + 1) + " of 57 removed", last.meanProbesBits(),
                    Double.doubleToLongBits((n + 59) / 2.0));
        }
        for (int keys = 2; keys <= 57; keys++) {
            HashLab lab = oneCluster(keys);
            lab.remove(64);
            double mean = (keys * (keys + 1) / 2 - 2) / (double) (keys - 1);
            Check.equal("the second of " + keys + " removed", lab.meanProbesBits(), Double.doubleToLongBits(mean));
        }
    }

    private static void promise35NoKeys() {
        Check.sentence("35", "Throws `ArithmeticException` if there are no keys");
        Labs.refused("an empty table", ARITHMETIC, HashLab::new, HashLab::meanProbesBits);
        Labs.refused("tombstones alone", ARITHMETIC, BoundaryStatisticsTest::graves, HashLab::meanProbesBits);
        HashLab cleared = Labs.busy();
        cleared.clear();
        Check.throwsExactly("a cleared table", ARITHMETIC, cleared::meanProbesBits);
    }

    private static void promise36LeastAndGreatest() {
        Check.sentence("36", "Returns the load: the number of keys divided by the capacity, both converted to float.");
        int[] most = {7, 14, 28, 57};
        float[] greatest = {0.875f, 0.875f, 0.875f, 0.890625f};
        for (int index = 0; index < CAPACITIES.length; index++) {
            int capacity = CAPACITIES[index];
            HashLab lab = Labs.emptyOf(capacity);
            Check.equal("no keys in " + capacity, lab.load(), 0.0f);
            lab.put(0, 0);
            Check.equal("one key in " + capacity, lab.load(), 1.0f / (float) capacity);
            for (int key = 1; key < most[index]; key++) {
                lab.put(key, 0);
            }
            Check.equal("the most keys in " + capacity, lab.load(), greatest[index]);
        }
    }

    private static void promise36TombstonesDoNotCount() {
        Check.sentence("36", "the number of keys divided by the capacity (tombstones do not count)");
        Check.equal("seven tombstones", graves().load(), 0.0f);
        HashLab lab = Labs.atHomes(0, 1, 2, 3, 4, 5, 6);
        lab.remove(0);
        Check.equal("six keys and a tombstone", lab.load(), 0.75f);
        lab.clear();
        Check.equal("cleared", lab.load(), 0.0f);
    }

    private static void promise37Bits() {
        Check.sentence("37", "Returns the bits of the load, as by Float.floatToIntBits.");
        Check.equal("0", new HashLab().loadBits(), 0);
        Check.equal("0 of tombstones", graves().loadBits(), 0);
        Check.equal("1/2", Labs.with(1, 2, 3, 4).loadBits(), 0x3F000000);
        Check.equal("7/8", Labs.atHomes(0, 1, 2, 3, 4, 5, 6).loadBits(), 0x3F600000);
        Check.equal("57/64", Labs.fullest().loadBits(), 0x3F640000);
        for (int capacity : CAPACITIES) {
            HashLab lab = Labs.emptyOf(capacity);
            for (int keys = 1; keys <= capacity * 7 / 8; keys++) {
                lab.put(keys, 0);
                Check.equal(keys + " of " + capacity, lab.loadBits(),
                        Float.floatToIntBits((float) keys / (float) capacity));
            }
        }
        HashLab least = Labs.emptyOf(64);
        least.put(0, 0);
        Check.equal("1/64, the least", least.loadBits(), 0x3C800000);
    }

    /** A trial made by the calls of a laboratory of its own. */
    private static int acted(int kind, int seed, int limit, int start, int count) {
        HashLab lab = new HashLab();
        lab.setKind(kind);
        lab.setSeed(seed);
        lab.setLimit(limit);
        int sum = 0;
        int x = start;
        for (int n = 0; n < count; n++) {
            x = (137 * x + 59) % 10007;
            int key = x % 10000;
            sum += lab.probes(key);
            Labs.outcome(() -> lab.put(key, 0));
        }
        return sum;
    }

    private static void promise38LeastAndGreatest() {
        Check.sentence("38", "`kind`: the kind of probing, 0 to 2; `start`: the start, 0 to 10006; `count`: the number of"
                + " keys, 1 to 40");
        for (int kind = 0; kind < 3; kind++) {
            for (int start : new int[] {0, 1, 10005, 10006}) {
                HashLab lab = new HashLab();
                Check.equal("kind " + kind + " start " + start + " count 1", lab.trial(kind, start, 1), 1);
                for (int count = 2; count <= 40; count++) {
                    Check.equal("kind " + kind + " start " + start + " count " + count, lab.trial(kind, start, count),
                            acted(kind, 0, 70, start, count));
                }
            }
        }
    }

    private static void promise38SmallNumbers() {
        Check.sentence("38", "Returns the result of the trial. (by hand)");
        HashLab lab = new HashLab();
        int[] sums = {1, 2, 3, 4, 6, 7};
        for (int count = 1; count <= sums.length; count++) {
            Check.equal("from 1 the homes are 4, 7, 6, 1, 1 and 3, count " + count, lab.trial(0, 1, count),
                    sums[count - 1]);
        }
    }

    private static void promise38KeysFromGreatNumbers() {
        Check.sentence("Terms", "each time, x is replaced by (137 x + 59) mod 10007, and the key is the new x mod 10000.");
        int[] starts = {730, 803, 2410, 4090, 5770, 7450, 9130};
        for (int start : starts) {
            Check.isTrue("38: the first x from " + start + " is 10000 or more", (137 * start + 59) % 10007 >= 10000);
            for (int kind = 0; kind < 3; kind++) {
                HashLab lab = new HashLab();
                lab.setLimit(25);
                for (int count = 1; count <= 40; count++) {
                    Check.equal("38: kind " + kind + " start " + start + " count " + count,
                            lab.trial(kind, start, count), acted(kind, 0, 25, start, count));
                }
            }
        }
    }

    private static void promise38KeyThatIsContained() {
        Check.sentence("Terms", "A key that is contained already, or that cannot be put, is not put, but its search"
                + " counts.");
        for (int kind = 0; kind < 3; kind++) {
            HashLab lab = new HashLab();
            for (int count = 1; count <= 40; count++) {
                Check.equal("38: the same key each time, kind " + kind + " count " + count,
                        lab.trial(kind, FIXED_START, count), count);
            }
        }
    }

    private static void promise38KeyThatCannotBePut() {
        Check.sentence("Terms", "or that cannot be put, is not put, but its search counts.");
        for (int kind = 0; kind < 3; kind++) {
            HashLab lab = new HashLab();
            lab.setLimit(25);
            int before = 0;
            for (int count = 1; count <= 40; count++) {
                int result = lab.trial(kind, 10006, count);
                Check.equal("38: sixteen keys at most, kind " + kind + " count " + count, result,
                        acted(kind, 0, 25, 10006, count));
                Check.isTrue("38: each search counts, kind " + kind + " count " + count, result > before);
                before = result;
            }
        }
    }

    /** From 12 the keys are 1703, 3209 and 9391, at home in 1, 7 and 1 of 8 slots, and in 1, 15 and 9 of 16. */
    private static void promise38SearchAheadOfTheRebuild() {
        Check.sentence("Terms", "The result of the trial is the sum of the numbers of probes of the n searches for these"
                + " keys that precede the insertions, each in the table as it is before it is rebuilt.");
        HashLab lab = new HashLab();
        lab.setLimit(25);
        Check.equal("38: the third key collides in 8 slots", lab.trial(0, 12, 3), 4);
        lab.setLimit(38);
        Check.equal("38: it does so without a rebuild, too", lab.trial(0, 12, 3), 4);
    }

    private static void promise38UsesANewTable() {
        Check.sentence("Terms", "A trial with a kind of probing, a start x and a number n uses a new table with 8 empty"
                + " slots, this kind, and the present seed and load limit.");
        HashLab fullest = Labs.fullest();
        HashLab grown = Labs.emptyOf(64);
        HashLab graves = graves();
        for (int kind = 0; kind < 3; kind++) {
            int due = acted(kind, 0, 90, 5, 40);
            Check.equal("38: beside 57 keys, kind " + kind, fullest.trial(kind, 5, 40), due);
            Check.equal("38: beside 64 slots, kind " + kind, grown.trial(kind, 5, 40), due);
            Check.equal("38: beside tombstones, kind " + kind, graves.trial(kind, 5, 40), due);
            Check.equal("38: again, kind " + kind, fullest.trial(kind, 5, 40), due);
        }
    }

    private static void promise38PresentSeedAndLimit() {
        Check.sentence("Terms", "and the present seed and load limit (at their least and greatest)");
        for (int seed : new int[] {0, 999}) {
            for (int limit : new int[] {25, 90}) {
                HashLab lab = new HashLab();
                lab.setSeed(seed);
                lab.setLimit(limit);
                lab.setKind(1);
                for (int kind = 0; kind < 3; kind++) {
                    for (int count : new int[] {3, 8, 16, 17, 39, 40}) {
                        Check.equal("38: seed " + seed + " limit " + limit + " kind " + kind + " count " + count,
                                lab.trial(kind, 77, count), acted(kind, seed, limit, 77, count));
                    }
                }
            }
        }
    }

    private static void promise38ChangesNothing() {
        Check.sentence("38", "Makes a trial, by which neither the table nor the numbers of rebuilds and growths change.");
        for (int kind = 0; kind < 3; kind++) {
            int tried = kind;
            Labs.changesNothing("kind " + kind + " of a busy table", Labs::busy, lab -> lab.trial(tried, 0, 40));
            Labs.changesNothing("kind " + kind + " of a crowded table", Labs::crowded,
                    lab -> lab.trial(tried, 10006, 40));
            Labs.changesNothing("kind " + kind + " of a new object", HashLab::new, lab -> lab.trial(tried, 1, 1));
        }
    }

    private static void promise38OutOfRange() {
        Check.sentence("38", "Throws `IllegalArgumentException` if a number is out of range");
        for (int kind : new int[] {-1, 3, Integer.MIN_VALUE, Integer.MAX_VALUE}) {
            Labs.refused("kind " + kind, ARGUMENT, Labs::busy, lab -> lab.trial(kind, 0, 1));
        }
        for (int start : new int[] {-1, 10007, Integer.MIN_VALUE, Integer.MAX_VALUE}) {
            Labs.refused("start " + start, ARGUMENT, Labs::busy, lab -> lab.trial(0, start, 1));
        }
        for (int count : new int[] {0, -1, 41, Integer.MIN_VALUE, Integer.MAX_VALUE}) {
            Labs.refused("count " + count, ARGUMENT, Labs::busy, lab -> lab.trial(0, 0, count));
        }
    }

    /** Looks for starts at which several kinds have the smallest result. */
    private static void promise39SmallestOfSeveral() {
        Check.sentence("39", "Returns the kind of probing whose trial has the smallest result, and of several the smallest"
                + " kind.");
        int[] seen = new int[7];
        for (int start = 0; start < 2000; start++) {
            HashLab lab = new HashLab();
            int[] results = {lab.trial(0, start, 12), lab.trial(1, start, 12), lab.trial(2, start, 12)};
            int least = Math.min(results[0], Math.min(results[1], results[2]));
            int best = results[0] == least ? 0 : results[1] == least ? 1 : 2;
            int which = (results[0] == least ? 1 : 0) + (results[1] == least ? 2 : 0) + (results[2] == least ? 4 : 0);
            seen[which - 1]++;
            Check.equal("start " + start + " where the smallest are " + which, lab.bestKind(start, 12), best);
        }
        for (int which = 1; which <= 7; which++) {
            Check.isTrue("such kinds are the smallest somewhere: " + which, seen[which - 1] > 0);
        }
    }

    private static void promise39LeastAndGreatest() {
        Check.sentence("39", "`start`: the start, 0 to 10006; `count`: the number of keys, 1 to 40");
        Check.equal("the same key each time", new HashLab().bestKind(FIXED_START, 40), 0);
        for (int start : new int[] {0, 1, 10005, 10006}) {
            HashLab lab = new HashLab();
            Check.equal("one key from " + start, lab.bestKind(start, 1), 0);
            int best = 0;
            for (int kind = 1; kind < 3; kind++) {
                best = acted(kind, 0, 70, start, 40) < acted(best, 0, 70, start, 40) ? kind : best;
            }
            Check.equal("forty keys from " + start, lab.bestKind(start, 40), best);
        }
    }

    private static void promise39OutOfRange() {
        Check.sentence("39", "Throws `IllegalArgumentException` if a number is out of range");
        for (int start : new int[] {-1, 10007, Integer.MIN_VALUE, Integer.MAX_VALUE}) {
            Labs.refused("start " + start, ARGUMENT, Labs::busy, lab -> lab.bestKind(start, 1));
        }
        for (int count : new int[] {0, -1, 41, Integer.MIN_VALUE, Integer.MAX_VALUE}) {
            Labs.refused("count " + count, ARGUMENT, Labs::busy, lab -> lab.bestKind(0, count));
        }
    }

    private static void promise40Boundaries() {
        Check.sentence("40", "Returns true if the invariants hold.");
        for (int capacity : CAPACITIES) {
            Check.isTrue("an empty table of " + capacity, Labs.emptyOf(capacity).isConsistent());
        }
        Check.isTrue("tombstones alone", graves().isConsistent());
        Check.isTrue("a table beyond its limit", Labs.crowded().isConsistent());
        Check.isTrue("a busy table", Labs.busy().isConsistent());
        for (int seed : new int[] {0, 1, 999}) {
            for (int kind = 0; kind < 3; kind++) {
                HashLab fullest = Labs.fullest();
                fullest.setSeed(seed);
                fullest.setKind(kind);
                Check.isTrue("57 keys, seed " + seed + " kind " + kind, fullest.isConsistent());
                for (int key = 0; key < 56; key++) {
                    fullest.remove(key);
                }
                Check.isTrue("56 tombstones, seed " + seed + " kind " + kind, fullest.isConsistent());
                HashLab around = Labs.atHomes(7, 7, 7, 7, 7, 7, 7);
                around.setSeed(seed);
                around.setKind(kind);
                Check.isTrue("around the end, seed " + seed + " kind " + kind, around.isConsistent());
            }
        }
    }

    private static void promise40ChangesNothing() {
        Check.sentence("40", "Checks the invariants: both ways of counting probes agree for all keys, and both ways of"
                + " measuring the largest cluster; the probe sequence of every key visits all slots; and a table that is"
                + " rebuilt with another kind of probing, for each kind, contains the same keys.");
        Labs.changesNothing("a new object", HashLab::new, HashLab::isConsistent);
        Labs.changesNothing("a busy table", Labs::busy, HashLab::isConsistent);
        Labs.changesNothing("a table beyond its limit", Labs::crowded, HashLab::isConsistent);
        Labs.changesNothing("tombstones alone", BoundaryStatisticsTest::graves, HashLab::isConsistent);
    }

    private static void promises34To39ChangeNothing() {
        Check.sentence("34 to 39", "Nothing is promised beyond the answers and state changes described above");
        Labs.changesNothing("meanProbes", Labs::busy, HashLab::meanProbes);
        Labs.changesNothing("meanProbesBits", Labs::busy, HashLab::meanProbesBits);
        Labs.changesNothing("load", Labs::busy, HashLab::load);
        Labs.changesNothing("loadBits", Labs::busy, HashLab::loadBits);
        Labs.changesNothing("bestKind", Labs::busy, lab -> lab.bestKind(10006, 40));
    }
}
