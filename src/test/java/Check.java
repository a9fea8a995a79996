/** Counts what is not as due, for the tests of the project. */
final class Check {
    interface Call {
        void run();
    }

    private int wrong;
    private int looked;
    private String sentence = "";

    /** What is looked at from now on comes from this sentence of the document. */
    void of(String text) {
        sentence = "\"" + text + "\": ";
    }

    void due(String what, long got, long want) {
        looked++;
        if (got != want) {
            tell(what + " answered " + got + ", due is " + want);
        }
    }

    void due(String what, String got, String want) {
        looked++;
        if (!got.equals(want)) {
            tell(what + " answered " + got + ", due is " + want);
        }
    }

    void isTrue(String what, boolean holds) {
        looked++;
        if (!holds) {
            tell(what + " does not hold");
        }
    }

    void refuses(String what, Class<? extends RuntimeException> kind, Call call) {
        looked++;
        try {
            call.run();
            tell(what + " threw nothing, due is " + kind.getSimpleName());
        } catch (RuntimeException e) {
            if (e.getClass() != kind) {
                tell(what + " threw " + e.getClass().getSimpleName() + ", due is " + kind.getSimpleName());
            }
        }
    }

    private void tell(String text) {
        wrong++;
        if (wrong <= 50) {
            System.out.println(sentence + text);
        }
    }

    void close() {
        System.out.println(looked + " answers, " + wrong + " not as due");
        if (wrong != 0) {
            System.exit(1);
        }
    }
}
