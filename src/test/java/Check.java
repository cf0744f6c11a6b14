/** Counts and prints the answers that are not as due, for the tests with a main method. */
final class Check {

    /** A call whose answer is looked at. */
    interface Asked {
        int answer();
    }

    /** A test of one sentence of the document. */
    interface Test {
        void run();
    }

    private static int wrong;
    private static int passed;
    private static int failed;

    private Check() {
    }

    /** Runs a test of its own for a sentence; one that is stopped does not stop the others. */
    static void that(String sentence, Test test) {
        int before = wrong;
        try {
            test.run();
        } catch (RuntimeException | AssertionError e) {
            fail("stopped by " + e + " at " + e.getStackTrace()[0]);
        }
        if (wrong == before) {
            passed++;
        } else {
            failed++;
            System.out.println("FAILED: " + sentence);
        }
    }

    static void due(String what, int want, int got) {
        if (want != got) {
            fail(what + " answered " + got + ", due is " + want);
        }
    }

    static void indexRefused(String what, Asked call) {
        refused(what, IndexOutOfBoundsException.class, call);
    }

    static void argumentRefused(String what, Asked call) {
        refused(what, IllegalArgumentException.class, call);
    }

    static void stateRefused(String what, Asked call) {
        refused(what, IllegalStateException.class, call);
    }

    static void refused(String what, Class<?> want, Asked call) {
        try {
            int got = call.answer();
            fail(what + " answered " + got + ", due is " + want.getSimpleName());
        } catch (RuntimeException e) {
            // The exact class: what the machine throws is a subclass of what is due.
            if (e.getClass() != want) {
                fail(what + " threw " + e + ", due is " + want.getSimpleName());
            }
        }
    }

    static void fail(String text) {
        wrong++;
        System.out.println(text);
    }

    /** Ends the program, with the exit code 1 if a test failed. */
    static void end() {
        System.out.println(passed + " passed, " + failed + " failed");
        System.exit(wrong == 0 && passed > 0 ? 0 : 1);
    }
}
