import java.util.function.Consumer;

/** Boundary cases of promises 48 to 50 and of undo in the section "Terms", sentence by sentence. */
final class BoundaryUndoTest {

    private static final Class<IllegalStateException> STATE = IllegalStateException.class;

    public static void main(String[] args) {
        eightLatestChanges();
        eightLatestOfMany();
        everyChangeIsOne();
        aProgramIsOneChange();
        refusedCallsAreNoChanges();
        otherCallsAreNoChanges();
        promise48LatestNotUndone();
        promise48WhatCanStillBeUndone();
        promise48NoChange();
        promise48GreatestTable();
        stateOfUndo();
        whatUndoLeaves();
        stateOfRestore();
        whatRestoreLeaves();
        promise49InPlaceOfTheStateBefore();
        promise49NumberOfKeys();
        promise49IsNoChange();
        promise50StaysSaved();
        promise50NoChangeCanBeUndone();
        promise50NumberOfKeys();
        promise50NothingSaved();
        promise50GreatestTable();
        Check.end();
    }

    private static HashLab limits(int first, int last) {
        HashLab lab = new HashLab();
        for (int limit = first; limit <= last; limit++) {
            lab.setLimit(limit);
        }
        return lab;
    }

    private static void eightLatestChanges() {
        Check.sentence("Terms", "The 8 latest changes can be undone.");
        for (int changes = 0; changes <= 10; changes++) {
            HashLab lab = limits(31, 30 + changes);
            int undone = Math.min(changes, 8);
            for (int n = 1; n <= undone; n++) {
                Check.equal("48: left of " + changes, lab.undo(), undone - n);
                int due = changes == n ? 70 : 30 + changes - n;
                Check.equal("48: limit after " + n + " of " + changes, lab.limit(), due);
            }
            Check.throwsExactly("48: one more than " + undone + " of " + changes, STATE, lab::undo);
        }
    }

    private static void eightLatestOfMany() {
        Check.sentence("Terms", "The 8 latest changes can be undone. (of many)");
        HashLab lab = new HashLab();
        for (int change = 0; change < 100; change++) {
            lab.setSeed(change);
        }
        for (int left = 7; left >= 0; left--) {
            Check.equal("48: left", lab.undo(), left);
            Check.equal("48: seed", lab.seed(), 91 + left);
            Check.equal("48: rebuilds", lab.rebuilds(), 92 + left);
        }
        Check.throwsExactly("48: the ninth", STATE, lab::undo);
        Check.equal("48: it stays", lab.seed(), 91);
    }

    private static void isChange(String what, Consumer<HashLab> change) {
        HashLab lab = Labs.with(1, 2, 3);
        String state = Labs.state(lab);
        change.accept(lab);
        Check.equal("48: one more by " + what, lab.undo(), 3);
        Check.equal("48: state ahead of " + what, Labs.state(lab), state);
        Check.equal("48: the change before " + what, lab.undo(), 2);
        Check.equal("48: it was put(3, 3), before " + what, lab.size(), 2);
    }

    private static void everyChangeIsOne() {
        Check.sentence("Terms", "A change is a successful call of put, remove, setKind, setLimit, setSeed, rebuild, clear"
                + " or run.");
        isChange("put of a new key", lab -> lab.put(4, 4));
        isChange("put of another value", lab -> lab.put(3, -3));
        isChange("put of the same value", lab -> lab.put(3, 3));
        isChange("remove", lab -> lab.remove(3));
        isChange("setKind", lab -> lab.setKind(2));
        isChange("setKind of the same kind", lab -> lab.setKind(0));
        isChange("setLimit", lab -> lab.setLimit(25));
        isChange("setLimit of the same limit", lab -> lab.setLimit(70));
        isChange("setSeed", lab -> lab.setSeed(999));
        isChange("setSeed of the same seed", lab -> lab.setSeed(0));
        isChange("rebuild", HashLab::rebuild);
        isChange("clear", HashLab::clear);
        isChange("run", lab -> Labs.run(lab, "clear"));
        HashLab grown = Labs.with(1, 2, 3, 4, 5);
        String state = Labs.state(grown);
        grown.put(6, 6);
        Check.equal("48: put that makes the table grow", grown.undo(), 5);
        Check.equal("48: state ahead of put that makes the table grow", Labs.state(grown), state);
        HashLab empty = new HashLab();
        empty.clear();
        Check.equal("48: clear of an empty table", empty.undo(), 0);
        empty.rebuild();
        Check.equal("48: rebuild of an empty table", empty.undo(), 0);
    }

    private static void aProgramIsOneChange() {
        Check.sentence("Terms", "A change is a successful call of run. (of many commands)");
        isChange("ten commands", lab -> Labs.run(lab, "clear;".repeat(9) + "clear"));
        isChange("six rebuilds for kinds and seeds", lab -> Labs.run(lab, "kind d;seed 1;kind t;seed 2;kind l;seed 3"));
        isChange("a command that changes nothing", lab -> Labs.run(lab, "put 3=3"));
        HashLab lab = new HashLab();
        for (int n = 0; n < 9; n++) {
            Labs.run(lab, "limit 3" + n + ";limit 4" + n);
        }
        for (int left = 7; left >= 0; left--) {
            Check.equal("48: programs left", lab.undo(), left);
            Check.equal("48: limit", lab.limit(), 40 + left);
        }
        Check.throwsExactly("48: the ninth program", STATE, lab::undo);
    }

    private static void refusedCallsAreNoChanges() {
        Check.sentence("Terms", "A change is a successful call (refused ones are none)");
        HashLab lab = Labs.crowded();
        String state = Labs.state(lab);
        Labs.outcome(() -> lab.put(6, 6));
        Labs.outcome(() -> lab.put(-1, 0));
        Labs.outcome(() -> lab.put(1, 1000));
        Labs.outcome(() -> lab.remove(6));
        Labs.outcome(() -> lab.setKind(3));
        Labs.outcome(() -> lab.setSeed(1000));
        Labs.outcome(() -> lab.setLimit(91));
        Labs.outcome(() -> Labs.run(lab, "clear;"));
        Labs.outcome(() -> Labs.run(lab, "clear;remove 1"));
        Check.equal("48: none of them changed the table", Labs.state(lab), state);
        Check.equal("48: none of them is a change", lab.undo(), 5);
        Check.equal("48: the latest was setLimit", lab.limit(), 70);
    }

    private static void otherCallsAreNoChanges() {
        Check.sentence("Terms", "A change is a successful call of put, remove, setKind, setLimit, setSeed, rebuild, clear"
                + " or run. (others are none)");
        HashLab lab = Labs.with(1, 2);
        lab.save();
        lab.trial(2, 1, 40);
        lab.bestKind(1, 40);
        lab.isConsistent();
        lab.writeSlots();
        lab.writeKeys();
        lab.type('x');
        lab.isNearLimit();
        lab.hardestKey();
        Check.equal("48: none of them", lab.undo(), 1);
        Check.equal("48: undo is none itself", lab.undo(), 0);
        Check.throwsExactly("48: nor can it be undone", STATE, lab::undo);
    }

    private static void promise48LatestNotUndone() {
        Check.sentence("48", "Undoes the latest change that was not undone.");
        HashLab lab = limits(31, 35);
        lab.undo();
        lab.undo();
        lab.setLimit(50);
        Check.equal("a new change after two undone", lab.undo(), 3);
        Check.equal("it is undone", lab.limit(), 33);
        Check.equal("then the one before the undone ones", lab.undo(), 2);
        Check.equal("it is undone, too", lab.limit(), 32);
        HashLab around = limits(31, 45);
        for (int n = 0; n < 5; n++) {
            around.undo();
        }
        for (int limit = 60; limit < 70; limit++) {
            around.setLimit(limit);
        }
        for (int left = 7; left >= 0; left--) {
            Check.equal("ten changes after five undone", around.undo(), left);
            Check.equal("its limit", around.limit(), 61 + left);
        }
        Check.throwsExactly("the ninth of them", STATE, around::undo);
    }

    private static void promise48WhatCanStillBeUndone() {
        Check.sentence("48", "Returns the number of changes that can still be undone.");
        Check.equal("of one", limits(31, 31).undo(), 0);
        Check.equal("of eight", limits(31, 38).undo(), 7);
        Check.equal("of nine", limits(31, 39).undo(), 7);
        HashLab lab = limits(31, 39);
        lab.undo();
        lab.setLimit(60);
        Check.equal("of seven and one", lab.undo(), 7);
        lab.undo();
        lab.undo();
        lab.setLimit(60);
        Check.equal("of five and one", lab.undo(), 5);
    }

    private static void promise48NoChange() {
        Check.sentence("48", "Throws `IllegalStateException` if no change can be undone");
        Labs.refused("a new object", STATE, HashLab::new, HashLab::undo);
        Labs.refused("all undone", STATE, () -> {
            HashLab lab = Labs.with(1);
            lab.undo();
            return lab;
        }, HashLab::undo);
        Labs.refused("eight of nine undone", STATE, () -> {
            HashLab lab = limits(31, 39);
            for (int n = 0; n < 8; n++) {
                lab.undo();
            }
            return lab;
        }, HashLab::undo);
        Labs.refused("a restored state", STATE, () -> {
            HashLab lab = Labs.busy();
            lab.restore();
            return lab;
        }, HashLab::undo);
        Labs.refused("refused calls alone", STATE, () -> {
            HashLab lab = new HashLab();
            Labs.outcome(() -> lab.remove(0));
            Labs.outcome(() -> Labs.run(lab, "limit 1"));
            return lab;
        }, HashLab::undo);
    }

    private static void promise48GreatestTable() {
        Check.sentence("48", "Undoes the latest change (of 64 slots)");
        HashLab lab = Labs.fullest();
        lab.remove(9);
        String state = Labs.state(lab);
        lab.clear();
        lab.undo();
        Check.equal("clear of 56 keys", Labs.state(lab), state);
        lab.undo();
        Check.equal("remove of the 57th", lab.get(9), 0);
        Check.equal("its slot is no tombstone", lab.tombstones(), 0);
        HashLab half = new HashLab();
        half.setLimit(90);
        for (int key = 0; key < 28; key++) {
            half.put(key, 0);
        }
        String small = Labs.state(half);
        half.put(28, 0);
        Check.equal("grown to 64", half.capacity(), 64);
        half.undo();
        Check.equal("back to 32", Labs.state(half), small);
    }

    /** Changes each part of the state, by calls of which each is one change. */
    private static void changeEach(HashLab lab) {
        lab.setKind(2);
        lab.setSeed(9);
        lab.setLimit(50);
        Labs.putAll(lab, 4, 5, 6);
        lab.remove(1);
        lab.put(2, -2);
    }

    private static void stateOfUndo() {
        Check.sentence("Terms", "The state that is undone, saved and restored consists of everything except the program"
                + " buffer, the error position, the failed command and the output line. (undone)");
        HashLab lab = Labs.with(1, 2, 3);
        String state = Labs.state(lab);
        changeEach(lab);
        String changed = Labs.state(lab);
        Check.equal("48: capacity, kind, seed, limit, rebuilds, growths, keys, tombstones", changed.substring(0, 17),
                "16/2/9/50/3/1/5/1");
        for (int n = 0; n < 8; n++) {
            lab.undo();
        }
        Check.equal("48: all of them", Labs.state(lab), state);
    }

    private static void whatUndoLeaves() {
        Check.sentence("Terms", "everything except the program buffer, the error position, the failed command and the"
                + " output line. (undone)");
        HashLab lab = Labs.with(1, 2);
        lab.put(3, 3);
        lab.writeKeys();
        Labs.outcome(() -> Labs.run(lab, "put"));
        Labs.outcome(() -> Labs.run(lab, "clear;limit 1"));
        Labs.type(lab, "cle");
        lab.undo();
        Check.equal("48: the output line", Labs.line(lab, 11), "1=1,2=2,3=3");
        Check.equal("48: the error position", lab.errorPosition(), 3);
        Check.equal("48: the failed command", lab.failedCommand(), 1);
        Check.equal("48: the buffer", lab.type('a'), 4);
        Check.equal("48: its text", Labs.run(lab, "r"), 1);
        Check.equal("48: run is a change after that", lab.undo(), 2);
    }

    private static void stateOfRestore() {
        Check.sentence("Terms", "The state that is undone, saved and restored consists of everything except the program"
                + " buffer, the error position, the failed command and the output line. (saved and restored)");
        HashLab lab = Labs.with(1, 2, 3);
        String state = Labs.state(lab);
        lab.save();
        changeEach(lab);
        String changed = Labs.state(lab);
        lab.restore();
        Check.equal("50: all of them", Labs.state(lab), state);
        changeEach(lab);
        lab.save();
        lab.clear();
        lab.setKind(0);
        lab.setSeed(0);
        lab.setLimit(90);
        lab.restore();
        Check.equal("50: all of them the other way round", Labs.state(lab), changed);
    }

    private static void whatRestoreLeaves() {
        Check.sentence("Terms", "everything except the program buffer, the error position, the failed command and the"
                + " output line. (saved and restored)");
        HashLab lab = Labs.with(1);
        lab.save();
        lab.put(2, 2);
        lab.writeKeys();
        Labs.outcome(() -> Labs.run(lab, "put"));
        Labs.outcome(() -> Labs.run(lab, "clear;limit 1"));
        Labs.type(lab, "cle");
        lab.restore();
        Check.equal("50: the output line", Labs.line(lab, 7), "1=1,2=2");
        Check.equal("50: the error position", lab.errorPosition(), 3);
        Check.equal("50: the failed command", lab.failedCommand(), 1);
        Check.equal("50: the buffer", lab.type('a'), 4);
        Check.equal("50: its text", Labs.run(lab, "r"), 1);
    }

    private static void promise49InPlaceOfTheStateBefore() {
        Check.sentence("49", "Saves the state in place of the state that was saved before.");
        HashLab lab = Labs.with(1, 2);
        lab.save();
        lab.clear();
        lab.save();
        lab.put(3, 3);
        Check.equal("an empty table in place of two keys", lab.restore(), 0);
        Check.equal("it is restored", Labs.state(lab), "8/0/0/70/0/0/0/0:||||||||");
        lab.put(4, 4);
        lab.save();
        lab.save();
        lab.remove(4);
        Check.equal("saved twice", lab.restore(), 1);
    }

    private static void promise49NumberOfKeys() {
        Check.sentence("49", "Returns the number of keys.");
        Check.equal("none", new HashLab().save(), 0);
        Check.equal("tombstones alone", Labs.buried(Labs.atHomes(0, 1, 2, 3, 4, 5, 6)).save(), 0);
        Check.equal("five", Labs.crowded().save(), 5);
        Check.equal("57", Labs.fullest().save(), 57);
    }

    private static void promise49IsNoChange() {
        Check.sentence("49", "Saves the state (and leaves it)");
        Labs.changesNothing("of a busy table, where the same was saved and restored", () -> {
            HashLab lab = Labs.busy();
            lab.save();
            return lab;
        }, HashLab::save);
        HashLab lab = Labs.with(1, 2);
        lab.save();
        Check.equal("the changes can still be undone", lab.undo(), 1);
        Check.equal("what is saved stays with that", lab.restore(), 2);
    }

    private static void promise50StaysSaved() {
        Check.sentence("50", "Restores the saved state, which stays saved.");
        HashLab lab = Labs.with(1);
        lab.save();
        String state = Labs.state(lab);
        for (int n = 2; n < 6; n++) {
            lab.put(n, n);
            lab.put(1, -n);
            lab.remove(1);
            lab.setKind(2);
            Check.equal("restored " + (n - 1) + " times", lab.restore(), 1);
            Check.equal("its state", Labs.state(lab), state);
        }
        Check.equal("restored twice on end", lab.restore(), 1);
    }

    private static void promise50NoChangeCanBeUndone() {
        Check.sentence("50", "Afterwards no change can be undone.");
        HashLab lab = limits(31, 39);
        lab.save();
        lab.restore();
        Check.throwsExactly("none of nine", STATE, lab::undo);
        for (int limit = 51; limit <= 59; limit++) {
            lab.setLimit(limit);
        }
        for (int left = 7; left >= 0; left--) {
            Check.equal("but later ones, left", lab.undo(), left);
            Check.equal("but later ones, limit", lab.limit(), 51 + left);
        }
        Check.throwsExactly("no more than eight of them", STATE, lab::undo);
        lab.restore();
        lab.put(1, 1);
        Check.equal("a single one", lab.undo(), 0);
        Check.equal("back to what was restored", lab.limit(), 39);
        Check.throwsExactly("and none before", STATE, lab::undo);
    }

    private static void promise50NumberOfKeys() {
        Check.sentence("50", "Returns the number of keys.");
        HashLab lab = new HashLab();
        lab.save();
        Labs.putAll(lab, 1, 2, 3);
        Check.equal("none", lab.restore(), 0);
        Labs.putAll(lab, 1, 2, 3);
        lab.remove(2);
        lab.save();
        lab.clear();
        Check.equal("two and a tombstone", lab.restore(), 2);
        Check.equal("the tombstone", lab.tombstones(), 1);
    }

    private static void promise50NothingSaved() {
        Check.sentence("50", "Throws `IllegalStateException` if no state was saved");
        Labs.refused("a new object", STATE, HashLab::new, HashLab::restore);
        Labs.refused("a changed one, of which nothing can be undone by that", STATE, Labs::crowded, HashLab::restore);
        HashLab saved = new HashLab();
        saved.save();
        Check.throwsExactly("another object saved its own", STATE, () -> new HashLab().restore());
        Check.equal("the one that saved", saved.restore(), 0);
    }

    private static void promise50GreatestTable() {
        Check.sentence("50", "Restores the saved state (of 64 slots)");
        HashLab lab = Labs.fullest();
        lab.remove(9);
        String state = Labs.state(lab);
        lab.save();
        lab.clear();
        lab.put(1, 1);
        Check.equal("over eight slots", lab.restore(), 56);
        Check.equal("its state", Labs.state(lab), state);
        HashLab small = Labs.with(1, 2);
        small.save();
        small.setLimit(25);
        for (int key = 3; key <= 16; key++) {
            small.put(key, 0);
        }
        Check.equal("64 slots", small.capacity(), 64);
        small.restore();
        Check.equal("eight slots over 64", Labs.state(small), "8/0/0/70/0/0/2/0:||||||2=2|1=1|");
    }
}
