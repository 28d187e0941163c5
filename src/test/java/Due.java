/** Counts the calls of one test whose answer is not the one that is due, and prints each. */
final class Due {
    static final long NONE = PartitionedProcedureStore.NONE;

    private final String test;
    private String sentence = "";
    private int wrong = 0;
    private int seen = 0;

    Due(String test) {
        this.test = test;
    }

    /** The words of the document that the answers looked at from here on rest on. */
    void sentence(String words) {
        sentence = " [" + words + "]";
    }

    void is(String call, long got, long want) {
        seen++;
        if (got != want) {
            wrong++;
            System.out.println(test + sentence + ": " + call + " answered " + got + ", due is " + want);
        }
    }

    void holds(String what, boolean held) {
        seen++;
        if (!held) {
            wrong++;
            System.out.println(test + sentence + ": does not hold: " + what);
        }
    }

    void end() {
        System.out.println(test + ": " + seen + " answers looked at, " + wrong + " wrong");
        if (wrong != 0 || seen == 0) {
            System.exit(1);
        }
    }
}
