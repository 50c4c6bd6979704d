import java.util.NoSuchElementException;

/** Boundary cases of promises 44 to 47 and of the programs in the section "Terms", sentence by sentence. */
final class BoundaryProgramsTest {

    private static final Class<IllegalArgumentException> ARGUMENT = IllegalArgumentException.class;
    private static final Class<IllegalStateException> STATE = IllegalStateException.class;
    private static final Class<NoSuchElementException> ELEMENT = NoSuchElementException.class;
    private static final Class<UnsupportedOperationException> FAILED = UnsupportedOperationException.class;
    private static final String SIXTY = "put 9999=-999;put 9998=-999;put 9997=-999;put 1=1;put 22=222";
    private static final String[] PROGRAMS = {"put 1234=-567", "put 0=0", "remove 1234", "remove 7", "kind l", "kind t",
        "kind d", "limit 025", "limit 90", "limit 24", "seed 999", "seed 0", "rebuild", "clear", "clear;rebuild",
        "put 7=1;remove 7;kind d;seed 1"};
    private static final char[] SIGNS = {0, ' ', '-', '0', '5', '9', '/', ':', ';', '=', 'a', 'b', 'c', 'd', 'e', 'i', 'k',
        'l', 'm', 'p', 'r', 's', 't', 'u', 'P', '+', (char) 233, '\u0661', Character.MAX_VALUE};

    public static void main(String[] args) {
        promise44AnyCharacter();
        promise44Lengths();
        promise44Full();
        promise44EmptyAgain();
        promise45NumbersAtTheirLeastAndGreatest();
        promise45Repetitions();
        promise45DigitsAtMost();
        promise45LongestProgram();
        promise45NumberOfCommands();
        promise45InOrder();
        promise45NoneIfOneFails();
        promise45FailsWhereTheMethodThrows();
        promise45EmptyAfterwards();
        promise45NotAProgram();
        promise45RefusedChangesNothingElse();
        promise46FirstCharacterThatCannotBe();
        promise46ProperPrefix();
        promise46EachCharacterReplaced();
        promise46Latest();
        promise46NoSuchText();
        promise47LeastAndGreatest();
        promise47Latest();
        promise47NoCommandFailed();
        Check.end();
    }

    private static void promise44AnyCharacter() {
        Check.sentence("44", "`character`: any character");
        for (char sign : SIGNS) {
            HashLab lab = new HashLab();
            Check.equal("character " + (int) sign, lab.type(sign), 1);
            Check.equal("and another", lab.type(sign), 2);
            boolean mayBegin = "pcklrs".indexOf(sign) >= 0;
            Check.throwsExactly("it is no program, character " + (int) sign, ARGUMENT, lab::run);
            Check.equal("46: as it was typed, character " + (int) sign, lab.errorPosition(), mayBegin ? 1 : 0);
        }
    }

    private static void promise44Lengths() {
        Check.sentence("44", "Returns the number of characters in the buffer afterwards.");
        HashLab lab = new HashLab();
        for (int length = 1; length <= 60; length++) {
            Check.equal("length", lab.type(SIXTY.charAt(length - 1)), length);
        }
        Check.equal("45: the text as it was typed", lab.run(), 5);
    }

    private static void promise44Full() {
        Check.sentence("44", "Throws `IllegalStateException` if the buffer contains 60 characters");
        Labs.refused("a program of sixty", STATE, () -> typed(SIXTY), lab -> lab.type('2'));
        Labs.refused("a program of sixty, and any character", STATE, () -> typed(SIXTY), lab -> lab.type((char) 0));
        Labs.refused("sixty that are no program", STATE, () -> typed("clear;".repeat(10)), lab -> lab.type('c'));
        HashLab lab = typed(SIXTY.substring(0, 59));
        Check.equal("the sixtieth", lab.type('2'), 60);
        Check.throwsExactly("the next", STATE, () -> lab.type('2'));
        Check.throwsExactly("the next again", STATE, () -> lab.type('2'));
    }

    private static HashLab typed(String text) {
        HashLab lab = new HashLab();
        lab.put(5, 5);
        Labs.type(lab, text);
        return lab;
    }

    private static void promise44EmptyAgain() {
        Check.sentence("44", "Appends a character to the program buffer. (once it was full)");
        HashLab lab = typed(SIXTY);
        lab.run();
        Labs.type(lab, SIXTY.substring(0, 59));
        Check.equal("sixty again", lab.type('2'), 60);
        Check.equal("45: they are a program again", lab.run(), 5);
    }

    private static void promise45NumbersAtTheirLeastAndGreatest() {
        Check.sentence("Terms", "The commands correspond to put(key, value), remove(key), setKind(kind), where \"l\" is"
                + " linear probing, \"t\" triangular probing and \"d\" double hashing, setLimit(limit), setSeed(seed),"
                + " rebuild() and clear().");
        HashLab lab = new HashLab();
        Labs.run(lab, "put 0=-999;put 9999=999;put 8=0;put 0016=-0;put 0024=-001");
        Check.equal("45: put", Labs.keys(lab), "0=-999,8=0,16=0,24=-1,9999=999");
        Labs.run(lab, "remove 0;remove 9999;remove 0008");
        Check.equal("45: remove", Labs.keys(lab), "16=0,24=-1");
        Check.equal("45: remove leaves tombstones", lab.tombstones(), 3);
        Labs.run(lab, "rebuild");
        Check.equal("45: rebuild", lab.tombstones(), 0);
        String[] kinds = {"l", "t", "d"};
        for (int kind = 2; kind >= 0; kind--) {
            Labs.run(lab, "kind " + kinds[kind]);
            Check.equal("45: kind " + kinds[kind], lab.kind(), kind);
        }
        Labs.run(lab, "seed 999;limit 90");
        Check.equal("45: greatest seed", lab.seed(), 999);
        Check.equal("45: greatest limit", lab.limit(), 90);
        Labs.run(lab, "seed 0;limit 25");
        Check.equal("45: least seed", lab.seed(), 0);
        Check.equal("45: least limit", lab.limit(), 25);
        Check.equal("45: each of kind, seed and rebuild rebuilds", lab.rebuilds(), 6);
        Labs.run(lab, "limit 070;clear");
        Check.equal("45: clear", Labs.state(lab), "8/0/0/70/6/0/0/0:||||||||");
    }

    private static void promise45Repetitions() {
        Check.sentence("Terms", "`program = command { \";\" command`}");
        Check.equal("45: no repetition", Labs.run(new HashLab(), "rebuild"), 1);
        Check.equal("45: one repetition", Labs.run(new HashLab(), "rebuild;seed 1"), 2);
        Check.equal("45: nine repetitions", Labs.run(new HashLab(), "clear;".repeat(9) + "clear"), 10);
        error("rebuild;", 8);
        error("rebuild;;seed 1", 8);
        error(";rebuild", 0);
        error("rebuild seed 1", 7);
    }

    private static void promise45DigitsAtMost() {
        Check.sentence("Terms", "`key = digit [ digit [ digit [ digit ] ] ]`, `number = digit [ digit [ digit ] ]`");
        Object[][] texts = {{"put =1", 4}, {"put 00000=1", 8}, {"put 1=", 6}, {"put 1=0000", 9}, {"put 1=-", 7},
            {"put 1=-0000", 10}, {"remove ", 7}, {"remove 00000", 11}, {"limit ", 6}, {"limit 0070", 9}, {"seed ", 5},
            {"seed 0000", 8}};
        for (Object[] pair : texts) {
            HashLab lab = new HashLab();
            Check.throwsExactly("45: " + pair[0], ARGUMENT, () -> Labs.run(lab, (String) pair[0]));
            Check.equal("46: " + pair[0], lab.errorPosition(), pair[1]);
        }
        String[] good = {"put 0=0", "put 0000=000", "put 0000=-000", "remove 5", "remove 0005", "limit 70", "limit 070",
            "seed 0", "seed 000"};
        for (String text : good) {
            Check.equal("45: " + text, Labs.run(typed(""), text), 1);
        }
    }

    private static void promise45LongestProgram() {
        Check.sentence("45", "Parses the program buffer and executes the commands in order (sixty characters)");
        HashLab lab = new HashLab();
        Check.equal("commands", Labs.run(lab, SIXTY), 5);
        Check.equal("keys", Labs.keys(lab), "1=1,22=222,9997=-999,9998=-999,9999=-999");
    }

    private static void promise45NumberOfCommands() {
        Check.sentence("45", "Returns the number of commands.");
        Check.equal("one", Labs.run(new HashLab(), "clear"), 1);
        Check.equal("two", Labs.run(new HashLab(), "clear;clear"), 2);
        Check.equal("the most, ten", Labs.run(new HashLab(), "clear;".repeat(9) + "clear"), 10);
    }

    private static void promise45InOrder() {
        Check.sentence("45", "executes the commands in order");
        HashLab lab = new HashLab();
        Labs.run(lab, "put 1=1;put 1=2;remove 1;put 1=3;clear;put 2=4");
        Check.equal("the last counts", Labs.keys(lab), "2=4");
        Labs.run(lab, "seed 1;seed 2;limit 30;limit 40;kind t;kind d");
        Check.equal("settings", Labs.state(lab).substring(0, 9), "8/2/2/40/");
        HashLab grown = Labs.with(1, 2, 3, 4, 5);
        Labs.run(grown, "put 6=6;rebuild;remove 6;rebuild");
        Check.equal("it grows in between", Labs.state(grown).substring(0, 18), "16/0/0/70/3/1/5/0:");
    }

    private static void promise45NoneIfOneFails() {
        Check.sentence("45", "either all of them or, if one of them fails, none.");
        String[] failing = {"remove 6", "put 6=6;remove 7", "clear;remove 1", "rebuild;limit 24", "kind d;limit 91",
            "seed 9;remove 6", "limit 90;remove 6", "remove 1;remove 1", "put 1=9;limit 999", "remove 6;put 6=6",
            "clear;clear;clear;clear;clear;clear;clear;clear;remove 1", "put 6=6;put 7=7;put 8=8;put 9=9;limit 0"};
        for (String text : failing) {
            HashLab lab = Labs.with(1, 2, 3, 4, 5);
            lab.remove(3);
            String state = Labs.state(lab);
            Check.throwsExactly(text, FAILED, () -> Labs.run(lab, text));
            Check.equal("nothing of " + text, Labs.state(lab), state);
            Check.equal("no change by " + text, lab.undo(), 5);
            Check.equal("the change that is undone is the one before " + text, lab.get(3), 3);
        }
    }

    private static void promise45FailsWhereTheMethodThrows() {
        Check.sentence("45", "Throws `UnsupportedOperationException` if a command fails, that is, if the method for it throws"
                + " an exception");
        Check.throwsExactly("remove in an empty table", FAILED, () -> Labs.run(new HashLab(), "remove 0"));
        Check.throwsExactly("put without room", FAILED, () -> Labs.run(Labs.crowded(), "put 6=6"));
        Check.equal("put of a contained key without room", Labs.run(Labs.crowded(), "put 5=9"), 1);
        Check.throwsExactly("limit one below the least", FAILED, () -> Labs.run(new HashLab(), "limit 24"));
        Check.equal("the least limit", Labs.run(new HashLab(), "limit 25"), 1);
        Check.equal("the greatest limit", Labs.run(new HashLab(), "limit 90"), 1);
        Check.throwsExactly("limit one above the greatest", FAILED, () -> Labs.run(new HashLab(), "limit 91"));
        Check.throwsExactly("the least number as limit", FAILED, () -> Labs.run(new HashLab(), "limit 0"));
        Check.throwsExactly("the greatest number as limit", FAILED, () -> Labs.run(new HashLab(), "limit 999"));
        HashLab fullest = Labs.fullest();
        Check.throwsExactly("the 58th key", FAILED, () -> Labs.run(fullest, "put 57=0"));
        Check.equal("room is made by the command before", Labs.run(fullest, "remove 0;put 57=0"), 2);
    }

    private static void promise45EmptyAfterwards() {
        Check.sentence("45", "The buffer is empty afterwards in every case.");
        HashLab lab = new HashLab();
        Labs.run(lab, "clear");
        Check.equal("a program", lab.type('x'), 1);
        Labs.outcome(lab::run);
        Check.equal("no program", lab.type('r'), 1);
        Labs.outcome(() -> Labs.run(lab, "emove 1"));
        Check.equal("a command that fails", lab.type(';'), 1);
        Labs.outcome(() -> Labs.run(lab, "x".repeat(59)));
        Check.equal("sixty characters", lab.type('x'), 1);
        Labs.outcome(lab::run);
        Check.throwsExactly("an empty text is no program", ARGUMENT, lab::run);
        Check.equal("it leaves an empty buffer", Labs.run(lab, "clear"), 1);
    }

    private static void promise45NotAProgram() {
        Check.sentence("45", "Throws `IllegalArgumentException` if the text is not a program; its error position is"
                + " recorded");
        String[] texts = {"", ";", "clear;", ";clear", "clear;;clear", "clear ;clear", "clear; clear", "clear\n",
            "Clear", "clear\u0000", "put 1 = 1", "put 1=- 1", "put  1=1", "kind linear", "kind L", "limit 2x", "seed -1",
            "remove 1,2", "rebuild 1", "undo", "put 10000=1", "put 1=1000"};
        int[] positions = {0, 0, 6, 0, 6, 5, 6, 5, 0, 5, 5, 7, 4, 6, 5, 7, 5, 8, 7, 0, 8, 9};
        for (int index = 0; index < texts.length; index++) {
            String text = texts[index];
            HashLab lab = Labs.with(1);
            Check.throwsExactly("text " + index, ARGUMENT, () -> Labs.run(lab, text));
            Check.equal("46: position of text " + index, lab.errorPosition(), positions[index]);
            Check.equal("nothing changed by text " + index, Labs.state(lab), Labs.state(Labs.with(1)));
        }
    }

    /** Once the same failure is recorded and the buffer empty, a run that fails must leave everything as it is. */
    private static void promise45RefusedChangesNothingElse() {
        Check.sentence("Terms", "A method that throws an exception changes nothing, except that run() empties the program"
                + " buffer and records a syntax error or a failed command.");
        for (String text : new String[] {"", "clear;", "put 5=5;x"}) {
            Labs.refused("45: the text " + text, ARGUMENT, () -> afterFailing(text), lab -> Labs.run(lab, text));
        }
        for (String text : new String[] {"limit 24", "clear;kind l;remove 5", "put 5=5;put 6=6;put 7=7;limit 91"}) {
            Labs.refused("45: the text " + text, FAILED, () -> afterFailing(text), lab -> Labs.run(lab, text));
        }
    }

    private static HashLab afterFailing(String text) {
        HashLab lab = Labs.busy();
        Labs.outcome(() -> Labs.run(lab, ";x"));
        Labs.outcome(() -> Labs.run(lab, text));
        return lab;
    }

    private static void error(String text, int due) {
        HashLab lab = new HashLab();
        Check.throwsExactly("45: no program is " + text, ARGUMENT, () -> Labs.run(lab, text));
        Check.equal("46: position in " + text, lab.errorPosition(), due);
    }

    private static void promise46FirstCharacterThatCannotBe() {
        Check.sentence("Terms", "The error position of a text that is not a program is the index of the first character at"
                + " which no program can continue,");
        error("x", 0);
        error(" clear", 0);
        error("qut 1=1", 0);
        error("pot 1=1", 1);
        error("rx", 1);
        error("rez", 2);
        error("rebx", 3);
        error("remx", 3);
        error("removex", 6);
        error("rebuildx", 7);
        error("clearx", 5);
        error("put x", 4);
        error("put 1x", 5);
        error("put 12345", 8);
        error("put 1=x", 6);
        error("put 1=-x", 7);
        error("put 1=--1", 7);
        error("put 1=1234", 9);
        error("put 1=-1234", 10);
        error("kind x", 5);
        error("kind tt", 6);
        error("limit -1", 6);
        error("limit 1000", 9);
        error("seed 1000", 8);
        error("clear;;", 6);
        error("clear;x", 6);
        error("clear;clear;clear;clear;clear;clear;clear;clear;clear;clear;".substring(0, 59) + "x", 59);
        error("x".repeat(60), 0);
    }

    private static void promise46ProperPrefix() {
        Check.sentence("Terms", "or the length of the text if the text is a proper prefix of a program.");
        error("", 0);
        error("p", 1);
        error("r", 1);
        error("re", 2);
        error("put", 3);
        error("put ", 4);
        error("put 1", 5);
        error("put 1234", 8);
        error("put 1=", 6);
        error("put 1=-", 7);
        error("remove", 6);
        error("remove ", 7);
        error("kind ", 5);
        error("limit ", 6);
        error("seed ", 5);
        error("rebuil", 6);
        error("clea", 4);
        error("clear;", 6);
        error("clear;put 1=1;", 14);
        error("clear;".repeat(10), 60);
    }

    /** Each prefix, each character left out, and each replaced by and preceded by others, against the model. */
    private static void promise46EachCharacterReplaced() {
        Check.sentence("46", "Returns the error position. (for every place and many characters)");
        for (String program : PROGRAMS) {
            for (int place = 0; place <= program.length(); place++) {
                String head = program.substring(0, place);
                String tail = program.substring(place);
                likeTheModel(head);
                likeTheModel(head + (tail.isEmpty() ? "" : tail.substring(1)));
                for (char sign : SIGNS) {
                    likeTheModel(head + sign + tail);
                    likeTheModel(head + sign + (tail.isEmpty() ? "" : tail.substring(1)));
                }
            }
        }
    }

    private static void likeTheModel(String text) {
        HashLab lab = new HashLab();
        Model model = new Model();
        for (char sign : text.toCharArray()) {
            lab.type(sign);
            model.type(sign);
        }
        Check.equal("run of " + text, Labs.outcome(lab::run), Labs.outcome(model::run));
        Check.equal("errorPosition of " + text, Labs.outcome(lab::errorPosition), Labs.outcome(model::errorPosition));
        Check.equal("failedCommand of " + text, Labs.outcome(lab::failedCommand), Labs.outcome(model::failedCommand));
    }

    private static void promise46Latest() {
        Check.sentence("46", "Returns the recorded error position of the latest text that was not a program.");
        HashLab lab = new HashLab();
        Labs.outcome(() -> Labs.run(lab, "clear;"));
        Check.equal("the first", lab.errorPosition(), 6);
        Check.equal("asked again", lab.errorPosition(), 6);
        Labs.run(lab, "clear");
        Check.equal("after a program", lab.errorPosition(), 6);
        Labs.outcome(() -> Labs.run(lab, "limit 1"));
        Check.equal("after a command that failed", lab.errorPosition(), 6);
        lab.save();
        lab.undo();
        lab.restore();
        Check.equal("after undo and restore", lab.errorPosition(), 6);
        Labs.outcome(lab::run);
        Check.equal("the least, of an empty text", lab.errorPosition(), 0);
        Labs.outcome(() -> Labs.run(lab, "clear;".repeat(10)));
        Check.equal("the greatest, of sixty characters", lab.errorPosition(), 60);
    }

    private static void promise46NoSuchText() {
        Check.sentence("46", "Throws `NoSuchElementException` if there was no such text");
        Labs.refused("a new object", ELEMENT, HashLab::new, HashLab::errorPosition);
        Labs.refused("programs and a command that failed", ELEMENT, () -> {
            HashLab lab = new HashLab();
            Labs.run(lab, "clear");
            Labs.outcome(() -> Labs.run(lab, "limit 1"));
            return lab;
        }, HashLab::errorPosition);
        Labs.refused("a wrong text that was only typed", ELEMENT, () -> typed("x"), HashLab::errorPosition);
    }

    private static void failed(String text, int due) {
        HashLab lab = new HashLab();
        Check.throwsExactly("45: " + text, FAILED, () -> Labs.run(lab, text));
        Check.equal("47: " + text, lab.failedCommand(), due);
    }

    private static void promise47LeastAndGreatest() {
        Check.sentence("45", "the number of this command, counted from 0, is recorded");
        failed("remove 0", 0);
        failed("remove 0;limit 1;clear", 0);
        failed("clear;limit 1;limit 2", 1);
        failed("clear;".repeat(8) + "remove 1", 8);
        failed("clear;".repeat(8) + "limit 999", 8);
        failed("put 1=1;remove 1;remove 1", 2);
    }

    private static void promise47Latest() {
        Check.sentence("47", "Returns the recorded number of the latest command that failed in a program.");
        HashLab lab = new HashLab();
        Labs.outcome(() -> Labs.run(lab, "clear;remove 1"));
        Check.equal("the first", lab.failedCommand(), 1);
        Check.equal("asked again", lab.failedCommand(), 1);
        Labs.run(lab, "clear");
        Check.equal("after a program", lab.failedCommand(), 1);
        Labs.outcome(() -> Labs.run(lab, "limit 1;"));
        Check.equal("after a text that was no program", lab.failedCommand(), 1);
        Labs.outcome(() -> lab.remove(1));
        Check.equal("after a call that failed", lab.failedCommand(), 1);
        lab.save();
        lab.undo();
        lab.restore();
        Check.equal("after undo and restore", lab.failedCommand(), 1);
        Labs.outcome(() -> Labs.run(lab, "remove 1"));
        Check.equal("the latest", lab.failedCommand(), 0);
    }

    private static void promise47NoCommandFailed() {
        Check.sentence("47", "Throws `NoSuchElementException` if no command failed");
        Labs.refused("a new object", ELEMENT, HashLab::new, HashLab::failedCommand);
        Labs.refused("programs, a text that was none, and a call that failed", ELEMENT, () -> {
            HashLab lab = new HashLab();
            Labs.run(lab, "clear");
            Labs.outcome(() -> Labs.run(lab, "limit 1;"));
            Labs.outcome(() -> lab.setLimit(1));
            return lab;
        }, HashLab::failedCommand);
    }
}
