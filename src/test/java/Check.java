/** Counts and prints the answers that are not as due, for the tests with a main method. */
final class Check {

    /** A call whose answer is looked at. */
    interface Asked {
        int answer();
    }

    private static int wrong;

    private Check() {
    }

    static void due(String what, int want, int got) {
        if (want != got) {
            fail(what + " answered " + got + ", due is " + want);
        }
    }

    static void indexRefused(String what, Asked call) {
        refused(what, IndexOutOfBoundsException.class, call);
    }

    static void argumentRefused(String what, Asked call) {
        refused(what, IllegalArgumentException.class, call);
    }

    static void stateRefused(String what, Asked call) {
        refused(what, IllegalStateException.class, call);
    }

    static void fail(String text) {
        wrong++;
        System.out.println(text);
    }

    /** Ends the program, with the exit code 1 if an answer was not as due. */
    static void end() {
        System.out.println(wrong == 0 ? "all answers are as due" : wrong + " answers are not as due");
        System.exit(wrong == 0 ? 0 : 1);
    }

    private static void refused(String what, Class<?> want, Asked call) {
        try {
            int got = call.answer();
            fail(what + " answered " + got + ", due is " + want.getSimpleName());
        } catch (RuntimeException e) {
            // The exact class: what the machine throws is a subclass of what is due.
            if (e.getClass() != want) {
                fail(what + " threw " + e + ", due is " + want.getSimpleName());
            }
        }
    }
}
