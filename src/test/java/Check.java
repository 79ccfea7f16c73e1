import java.util.function.LongSupplier;

/** Counts the answers of one test program and tells the wrong ones. */
final class Check {
    interface Call {
        void run();
    }

    private int answers = 0;
    private int wrong = 0;
    private String sentence = "";

    /** The words of the document by which the next answers are due. */
    void sentence(String words) {
        sentence = "\"" + words + "\": ";
    }

    /** What a call answers, or the name of what it throws. */
    static String outcome(LongSupplier call) {
        try {
            return Long.toString(call.getAsLong());
        } catch (RuntimeException e) {
            return e.getClass().getSimpleName();
        }
    }

    void due(String what, long got, long want) {
        answers++;
        if (got != want) {
            tell(what + " answered " + got + ", due is " + want);
        }
    }

    void due(String what, boolean got, boolean want) {
        due(what, got ? 1 : 0, want ? 1 : 0);
    }

    void due(String what, String got, String want) {
        answers++;
        if (!got.equals(want)) {
            tell(what + " answered '" + got + "', due is '" + want + "'");
        }
    }

    /** The very class is due, not one below it. */
    void fails(String what, Class<? extends RuntimeException> want, Call call) {
        answers++;
        Class<?> got = null;
        try {
            call.run();
        } catch (RuntimeException e) {
            got = e.getClass();
        }
        if (got != want) {
            tell(what + " threw " + got + ", due is " + want);
        }
    }

    void tell(String fault) {
        wrong++;
        if (wrong <= 40) {
            System.out.println(sentence + fault);
        }
    }

    void end(String name) {
        System.out.println(name + ": " + answers + " answers, " + wrong + " wrong");
        if (wrong != 0 || answers == 0) {
            System.exit(1);
        }
    }
}
