import java.util.NoSuchElementException;

/** Promises 44 to 47: programs. */
final class ProgramsTest {

    private static final Class<IllegalArgumentException> ARGUMENT = IllegalArgumentException.class;
    private static final Class<IllegalStateException> STATE = IllegalStateException.class;
    private static final Class<NoSuchElementException> ELEMENT = NoSuchElementException.class;
    private static final Class<UnsupportedOperationException> FAILED = UnsupportedOperationException.class;

    public static void main(String[] args) {
        promise44Type();
        promise45Commands();
        promise45AllOrNone();
        promise45BufferIsEmptied();
        promise46ErrorPositions();
        promise46ErrorPositionOfLatest();
        promise47FailedCommand();
        Check.end();
    }

    private static void promise44Type() {
        HashLab lab = new HashLab();
        char[] signs = {'p', (char) 0, (char) 255, (char) 256, Character.MAX_VALUE};
        for (int index = 0; index < 60; index++) {
            Check.equal("44 length", lab.type(signs[index % signs.length]), index + 1);
        }
        Check.throwsExactly("44 sixty characters", STATE, () -> lab.type('x'));
        Check.throwsExactly("44 again", STATE, () -> lab.type('x'));
        Check.throwsExactly("44 the text as typed", ARGUMENT, lab::run);
        Check.equal("44 its error", lab.errorPosition(), 1);
        Check.equal("44 empty again", lab.type('x'), 1);
    }

    private static void promise45Commands() {
        HashLab lab = new HashLab();
        Check.equal("45 one command", Labs.run(lab, "put 9999=-999"), 1);
        Check.equal("45 put", lab.get(9999), -999);
        Check.equal("45 leading zeros", Labs.run(lab, "put 0007=007;put 8=-0;put 0=999"), 3);
        Check.equal("45 keys", Labs.keys(lab), "0=999,7=7,8=0,9999=-999");
        Check.equal("45 remove", Labs.run(lab, "remove 0008;remove 0"), 2);
        Check.equal("45 tombstones", lab.tombstones(), 2);
        Check.equal("45 rebuild", Labs.run(lab, "rebuild"), 1);
        Check.equal("45 no tombstones", lab.tombstones(), 0);
        Check.equal("45 settings", Labs.run(lab, "kind t;limit 090;seed 999"), 3);
        Check.equal("45 state", Labs.state(lab).substring(0, 17), "8/1/999/90/3/0/2/");
        Labs.run(lab, "kind d;limit 25;seed 0");
        Check.equal("45 state again", Labs.state(lab).substring(0, 15), "8/2/0/25/5/0/2/");
        Labs.run(lab, "kind l");
        Check.equal("45 linear", lab.kind(), 0);
        Check.equal("45 ten commands", Labs.run(lab, "clear;".repeat(9) + "clear"), 10);
        Check.equal("45 cleared", lab.size(), 0);
        Check.equal("45 in order", Labs.run(lab, "put 1=1;put 1=2;remove 1;put 1=3"), 4);
        Check.equal("45 the last counts", lab.get(1), 3);
        Check.equal("45 grows", Labs.run(lab, "limit 70;put 2=0;put 3=0;put 4=0;put 5=0;put 6=0"), 6);
        Check.equal("45 grown", lab.capacity(), 16);
    }

    private static void promise45AllOrNone() {
        HashLab lab = Labs.with(1, 2);
        lab.save();
        String state = Labs.state(lab);
        String[] failing = {"remove 3", "put 3=3;clear;remove 3", "kind d;seed 5;limit 24", "rebuild;limit 91",
            "limit 999", "limit 0", "remove 1;remove 1"};
        int[] commands = {0, 2, 2, 1, 0, 0, 1};
        for (int index = 0; index < failing.length; index++) {
            String text = failing[index];
            Check.throwsExactly("45 " + text, FAILED, () -> Labs.run(lab, text));
            Check.equal("47 " + text, lab.failedCommand(), commands[index]);
            Check.equal("45 nothing changed by " + text, Labs.state(lab), state);
        }
        Check.equal("45 no change to undo but the puts", lab.undo(), 1);
        HashLab dense = Labs.with(1, 2, 3, 4, 5);
        String before = Labs.state(dense);
        Check.throwsExactly("45 a key that cannot be put", FAILED, () -> Labs.run(dense, "limit 25;put 5=0;put 6=0"));
        Check.equal("47 the third", dense.failedCommand(), 2);
        Check.equal("45 nothing changed", Labs.state(dense), before);
    }

    private static void promise45BufferIsEmptied() {
        HashLab lab = new HashLab();
        Labs.run(lab, "clear");
        Check.equal("45 emptied by a program", lab.type('x'), 1);
        Check.throwsExactly("45 no program", ARGUMENT, lab::run);
        Check.equal("45 emptied by a syntax error", lab.type('r'), 1);
        Check.throwsExactly("45 failed command", FAILED, () -> Labs.run(lab, "emove 1"));
        Check.equal("45 emptied by a failed command", lab.type('x'), 1);
    }

    private static void promise46ErrorPositions() {
        Object[][] texts = {{"", 0}, {";", 0}, {"x", 0}, {" clear", 0}, {"Clear", 0}, {"p", 1}, {"re", 2}, {"rex", 2},
            {"rem", 3}, {"reb", 3}, {"removed", 6}, {"remove ", 7}, {"remove x", 7}, {"remove 12345", 11},
            {"remove -1", 7}, {"put", 3}, {"put ", 4}, {"put -1=1", 4}, {"put =1", 4}, {"put 1", 5}, {"put 1 =1", 5},
            {"put 12345=1", 8}, {"put 1=", 6}, {"put 1=-", 7}, {"put 1=--1", 7}, {"put 1=+1", 6}, {"put 1=1234", 9},
            {"put 1=-1234", 10}, {"kind", 4}, {"kind ", 5}, {"kind x", 5}, {"kind lt", 6}, {"kind 0", 5},
            {"limit ", 6}, {"limit 1000", 9}, {"limit -1", 6}, {"seed", 4}, {"seed 1000", 8}, {"seed x", 5},
            {"rebuil", 6}, {"rebuild ", 7}, {"rebuild;", 8}, {"rebuild;;", 8}, {"rebuild; clear", 8}, {"clear;re", 8},
            {"clearclear", 5}, {"clear;put 1=1;sead 1", 16}, {"put 1=1 ", 7}, {"put 1\u0661=1", 5}, {"remove 1=1", 8},
            {"clear;".repeat(10), 60}};
        for (Object[] pair : texts) {
            HashLab lab = Labs.with(1);
            String state = Labs.state(lab);
            Check.throwsExactly("45 \"" + pair[0] + "\"", ARGUMENT, () -> Labs.run(lab, (String) pair[0]));
            Check.equal("46 \"" + pair[0] + "\"", lab.errorPosition(), pair[1]);
            Check.equal("45 nothing changed", Labs.state(lab), state);
            Check.equal("45 no change", lab.undo(), 0);
            Check.throwsExactly("47 no failed command", ELEMENT, lab::failedCommand);
        }
    }

    private static void promise46ErrorPositionOfLatest() {
        HashLab lab = new HashLab();
        Labs.run(lab, "clear");
        Check.throwsExactly("46 none yet", ELEMENT, lab::errorPosition);
        Check.throwsExactly("46 first", ARGUMENT, () -> Labs.run(lab, "put x"));
        Labs.run(lab, "clear");
        Check.equal("46 it stays", lab.errorPosition(), 4);
        Check.throwsExactly("46 failed command", FAILED, () -> Labs.run(lab, "remove 1"));
        Check.equal("46 it stays after a failed command", lab.errorPosition(), 4);
        Check.throwsExactly("46 second", ARGUMENT, lab::run);
        Check.equal("46 the latest", lab.errorPosition(), 0);
    }

    private static void promise47FailedCommand() {
        HashLab lab = new HashLab();
        Check.throwsExactly("47 none yet", ELEMENT, lab::failedCommand);
        Check.throwsExactly("47 a failed call is no command", ELEMENT, () -> lab.remove(1));
        Check.throwsExactly("47 still none", ELEMENT, lab::failedCommand);
        Check.throwsExactly("47 first", FAILED, () -> Labs.run(lab, "clear;clear;remove 1;limit 1"));
        Check.equal("47 the first that failed", lab.failedCommand(), 2);
        Labs.run(lab, "clear");
        Check.throwsExactly("47 a syntax error", ARGUMENT, () -> Labs.run(lab, "remove 1;"));
        Check.equal("47 it stays", lab.failedCommand(), 2);
        lab.save();
        lab.undo();
        lab.restore();
        Check.equal("47 it stays after restore", lab.failedCommand(), 2);
        Check.throwsExactly("47 second", FAILED, () -> Labs.run(lab, "limit 1"));
        Check.equal("47 the latest", lab.failedCommand(), 0);
    }
}
