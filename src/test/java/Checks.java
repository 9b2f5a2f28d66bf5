/** Counts what one test program checks, and prints what is not as due. */
final class Checks {
    interface Deed {
        void run();
    }

    private int passed = 0;
    private int failed = 0;
    private String part = "";

    void begin(String name) {
        part = name;
    }

    void due(String what, long got, long want) {
        note(got == want, what + " answered " + got + ", due is " + want);
    }

    void due(String what, String got, String want) {
        note(got.equals(want), what + " answered " + got + ", due is " + want);
    }

    void isTrue(String what, boolean holds) {
        note(holds, what + " does not hold");
    }

    void outOfBounds(String what, Deed deed) {
        due(what, outcome(deed), "IndexOutOfBoundsException");
    }

    void illegalArgument(String what, Deed deed) {
        due(what, outcome(deed), "IllegalArgumentException");
    }

    void illegalState(String what, Deed deed) {
        due(what, outcome(deed), "IllegalStateException");
    }

    /** Ends the program: with exit code 1 if anything was not as due. */
    void end(String program) {
        System.out.println(program + ": " + passed + " checks as due, " + failed + " not");
        if (failed > 0 || passed == 0) {
            System.exit(1);
        }
    }

    private static String outcome(Deed deed) {
        try {
            deed.run();
            return "nothing";
        } catch (RuntimeException e) {
            return e.getClass().getSimpleName();
        }
    }

    private void note(boolean isAsDue, String otherwise) {
        if (isAsDue) {
            passed++;
        } else {
            failed++;
            System.out.println(part + ": " + otherwise);
        }
    }
}
