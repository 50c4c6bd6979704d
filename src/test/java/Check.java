/** Counts and prints the answers that are not as due. */
final class Check {

    private static int wrong = 0;
    private static int checked = 0;

    private Check() {
    }

    static void equal(String what, Object got, Object due) {
        checked++;
        if (!due.equals(got)) {
            wrong++;
            System.out.println(what + " answered " + got + ", due is " + due);
        }
    }

    static void isTrue(String what, boolean got) {
        equal(what, got, true);
    }

    static void isFalse(String what, boolean got) {
        equal(what, got, false);
    }

    static void throwsExactly(String what, Class<? extends RuntimeException> due, Runnable call) {
        String got = "nothing thrown";
        try {
            call.run();
        } catch (RuntimeException thrown) {
            got = thrown.getClass().getName();
        }
        equal(what, got, due.getName());
    }

    /** Ends the program with exit code 1 if an answer was not as due, or if none was looked at. */
    static void end() {
        System.out.println(checked + " answers, " + wrong + " not as due");
        if (wrong > 0 || checked == 0) {
            System.exit(1);
        }
    }
}
