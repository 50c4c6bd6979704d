/** Counts and prints the answers that are not as due. */
final class Check {

    private static int wrong = 0;
    private static int checked = 0;
    private static int checkedBefore = 0;
    private static String sentence = "";

    private Check() {
    }

    /** Begins the checks of a sentence of the document; its promise and its words stand ahead of their names. */
    static void sentence(String promise, String words) {
        endSentence();
        sentence = promise + " \"" + words + "\" ";
        checkedBefore = checked;
    }

    private static void endSentence() {
        if (!sentence.isEmpty() && checked == checkedBefore) {
            wrong++;
            System.out.println(sentence + "has no check");
        }
    }

    static void equal(String what, Object got, Object due) {
        checked++;
        if (!due.equals(got)) {
            wrong++;
            System.out.println(sentence + what + " answered " + got + ", due is " + due);
        }
    }

    static void isTrue(String what, boolean got) {
        equal(what, got, true);
    }

    static void isFalse(String what, boolean got) {
        equal(what, got, false);
    }

    static void throwsExactly(String what, Class<? extends RuntimeException> due, Runnable call) {
        String got = "nothing thrown";
        try {
            call.run();
        } catch (RuntimeException thrown) {
            got = thrown.getClass().getName();
        }
        equal(what, got, due.getName());
    }

    /** Ends the program with exit code 1 if an answer was not as due, or if none was looked at. */
    static void end() {
        endSentence();
        System.out.println(checked + " answers, " + wrong + " not as due");
        if (wrong > 0 || checked == 0) {
            System.exit(1);
        }
    }
}
