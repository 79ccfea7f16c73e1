/** Counts the answers of one test program and tells the wrong ones. */
final class Check {
    interface Call {
        void run();
    }

    private int answers = 0;
    private int wrong = 0;

    void due(String what, long got, long want) {
        answers++;
        if (got != want) {
            tell(what + " answered " + got + ", due is " + want);
        }
    }

    void due(String what, boolean got, boolean want) {
        due(what, got ? 1 : 0, want ? 1 : 0);
    }

    /** The very class is due, not one below it. */
    void fails(String what, Class<? extends RuntimeException> want, Call call) {
        answers++;
        Class<?> got = null;
        try {
            call.run();
        } catch (RuntimeException e) {
            got = e.getClass();
        }
        if (got != want) {
            tell(what + " threw " + got + ", due is " + want);
        }
    }

    void tell(String fault) {
        wrong++;
        if (wrong <= 40) {
            System.out.println(fault);
        }
    }

    void end(String name) {
        System.out.println(name + ": " + answers + " answers, " + wrong + " wrong");
        if (wrong != 0 || answers == 0) {
            System.exit(1);
        }
    }
}
