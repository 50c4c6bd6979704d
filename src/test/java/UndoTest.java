import java.util.function.Consumer;

/** Promises 48 to 50: undo and snapshots. */
final class UndoTest {

    private static final Class<IllegalStateException> STATE = IllegalStateException.class;

    public static void main(String[] args) {
        promise48UndoOfEachChange();
        promise48EightLatest();
        promise48WhatIsNoChange();
        promise48WhatStays();
        promises49And50SaveAndRestore();
        promise50SavedStateStays();
        Check.end();
    }

    private static void undone(String what, Consumer<HashLab> change) {
        HashLab lab = Labs.with(1, 2, 3, 4, 5);
        lab.remove(3);
        String state = Labs.state(lab);
        change.accept(lab);
        Check.equal("48 six are left after " + what, lab.undo(), 6);
        Check.equal("48 " + what, Labs.state(lab), state);
        Check.equal("48 five are left after " + what, lab.undo(), 5);
        Check.equal("48 the removed key is back after " + what, lab.get(3), 3);
    }

    private static void promise48UndoOfEachChange() {
        undone("put that grows", lab -> lab.put(6, 6));
        undone("put of a contained key", lab -> lab.put(1, 9));
        undone("put of the same value", lab -> lab.put(1, 1));
        undone("remove", lab -> lab.remove(1));
        undone("setKind", lab -> lab.setKind(2));
        undone("setSeed", lab -> lab.setSeed(9));
        undone("setLimit", lab -> lab.setLimit(90));
        undone("rebuild", lab -> lab.rebuild());
        undone("clear", lab -> lab.clear());
        undone("run", lab -> Labs.run(lab, "kind t;seed 3;limit 25;remove 1;clear"));
    }

    private static void promise48EightLatest() {
        HashLab lab = new HashLab();
        Check.throwsExactly("48 nothing yet", STATE, lab::undo);
        for (int limit = 31; limit <= 40; limit++) {
            lab.setLimit(limit);
        }
        for (int left = 7; left >= 0; left--) {
            Check.equal("48 left", lab.undo(), left);
            Check.equal("48 limit", lab.limit(), 32 + left);
        }
        Check.throwsExactly("48 the ninth", STATE, lab::undo);
        Check.equal("48 nothing changed", lab.limit(), 32);
        lab.setLimit(50);
        lab.setLimit(51);
        lab.undo();
        lab.setLimit(52);
        Check.equal("48 an undone change is gone", lab.undo(), 1);
        Check.equal("48 back to 50", lab.limit(), 50);
        Check.equal("48 back to 32", lab.undo(), 0);
        Check.equal("48 limit 32", lab.limit(), 32);
    }

    private static void promise48WhatIsNoChange() {
        HashLab lab = Labs.with(1);
        lab.save();
        lab.isConsistent();
        lab.trial(0, 1, 40);
        lab.bestKind(1, 40);
        lab.writeSlots();
        lab.writeKeys();
        Check.throwsExactly("48 failed put", IllegalArgumentException.class, () -> lab.put(-1, 0));
        Check.throwsExactly("48 failed kind", IllegalArgumentException.class, () -> lab.setKind(3));
        Check.throwsExactly("48 failed program", UnsupportedOperationException.class,
                () -> Labs.run(lab, "clear;limit 1"));
        Check.equal("48 only the put", lab.undo(), 0);
        Check.equal("48 undone", lab.size(), 0);
        lab.setKind(0);
        lab.setSeed(0);
        lab.setLimit(70);
        lab.clear();
        lab.rebuild();
        Check.equal("48 changes to the same are changes", lab.undo(), 4);
        Labs.run(lab, "clear;clear;clear;clear");
        Check.equal("48 a program is one change", lab.undo(), 4);
    }

    private static void promise48WhatStays() {
        HashLab lab = Labs.with(1, 2);
        lab.writeKeys();
        Check.throwsExactly("48 syntax error", IllegalArgumentException.class, () -> Labs.run(lab, "put"));
        Check.throwsExactly("48 failed", UnsupportedOperationException.class, () -> Labs.run(lab, "clear;limit 1"));
        lab.type('c');
        lab.undo();
        Check.equal("48 the line", lab.charAt(4), '2');
        Check.equal("48 the error position", lab.errorPosition(), 3);
        Check.equal("48 the failed command", lab.failedCommand(), 1);
        Check.equal("48 the buffer", lab.type('l'), 2);
        lab.save();
        lab.undo();
        lab.restore();
        Check.equal("50 the buffer", lab.type('e'), 3);
        Check.equal("50 the line", lab.charAt(4), '2');
        Check.equal("50 the error position", lab.errorPosition(), 3);
    }

    private static void promises49And50SaveAndRestore() {
        HashLab lab = new HashLab();
        Check.throwsExactly("50 nothing saved", STATE, lab::restore);
        Check.equal("49 no keys", lab.save(), 0);
        Labs.putAll(lab, 1, 2, 3, 4, 5, 6);
        lab.setKind(1);
        lab.setSeed(4);
        lab.setLimit(80);
        lab.remove(3);
        String state = Labs.state(lab);
        Check.equal("49 keys", lab.save(), 5);
        Check.equal("49 changes nothing", Labs.state(lab), state);
        Check.equal("49 leaves the changes", lab.undo(), 7);
        lab.clear();
        lab.setKind(2);
        lab.rebuild();
        Check.equal("50 keys", lab.restore(), 5);
        Check.equal("50 restored", Labs.state(lab), state);
        Check.throwsExactly("50 no change can be undone", STATE, lab::undo);
        lab.put(9, 9);
        Check.equal("50 but a later one", lab.undo(), 0);
    }

    private static void promise50SavedStateStays() {
        HashLab lab = Labs.with(1);
        lab.save();
        lab.put(2, 2);
        Check.equal("50 first time", lab.restore(), 1);
        lab.put(3, 3);
        Check.equal("50 second time", lab.restore(), 1);
        lab.put(4, 4);
        lab.put(5, 5);
        Check.equal("49 in place of the first", lab.save(), 3);
        lab.undo();
        Check.equal("48 undo leaves what is saved", lab.restore(), 3);
        Check.equal("50 keys", Labs.keys(lab), "1=1,4=4,5=5");
    }
}
