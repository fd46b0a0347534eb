/** What the tests share: it prints every answer that is not the one that is due, and counts these. */
final class Check {
    private final String test;
    private int checked = 0;
    private int wrong = 0;

    Check(String test) {
        this.test = test;
    }

    interface Call {
        long answer();
    }

    void due(String what, long want, long got) {
        checked++;
        if (got != want) {
            tell(what + " answered " + got + ", due is " + want);
        }
    }

    void due(String what, double want, double got) {
        checked++;
        if (got != want) {
            tell(what + " answered " + got + ", due is " + want);
        }
    }

    void due(String what, String want, String got) {
        checked++;
        if (!want.equals(got)) {
            tell(what + " answered " + got + ", due is " + want);
        }
    }


    void outOfBounds(String what, Call call) {
        fails(what, IndexOutOfBoundsException.class, call);
    }

    void illegalArgument(String what, Call call) {
        fails(what, IllegalArgumentException.class, call);
    }

    void illegalState(String what, Call call) {
        fails(what, IllegalStateException.class, call);
    }

    /** The call has to throw just this class: the machine's own ones are below it. */
    private void fails(String what, Class<? extends RuntimeException> want, Call call) {
        checked++;
        try {
            long got = call.answer();
            tell(what + " answered " + got + ", due is " + want.getName());
        } catch (RuntimeException e) {
            if (e.getClass() != want) {
                tell(what + " threw " + e + ", due is " + want.getName());
            }
        }
    }

    private void tell(String line) {
        wrong++;
        System.out.println(test + ": " + line);
    }

    /** Ends the test: with exit code 1 if an answer was wrong. */
    void end() {
        System.out.println(test + ": " + checked + " checks, " + wrong + " wrong");
        if (wrong != 0) {
            System.exit(1);
        }
    }
}
