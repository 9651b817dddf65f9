/** Counts the calls whose answer is not the one that is due, and prints each of them. */
final class Check {

    private final String test;
    private String sentence = "";
    private int asked;
    private int wrong;

    Check(String test) {
        this.test = test;
    }

    /** What lies just outside lowest .. highest, and the smallest and the largest int. */
    static int[] outside(int lowest, int highest) {
        return new int[] {lowest - 1, highest + 1, Integer.MIN_VALUE, Integer.MAX_VALUE};
    }

    /** The document's words that the next calls are about; they stand before what is wrong. */
    void sentence(String words) {
        sentence = " [" + words + "]";
    }

    void due(String call, long got, long want) {
        asked++;
        if (got != want) {
            tellWrong(call + " answered " + got + ", due is " + want);
        }
    }

    void due(String call, boolean got, boolean want) {
        due(call, got ? 1L : 0L, want ? 1L : 0L);
    }

    void due(String call, String got, String want) {
        asked++;
        if (!got.equals(want)) {
            tellWrong(call + " answered " + got + ", due is " + want);
        }
    }

    void wrongArgument(String call, Runnable run) {
        dueThrow(call, run, IllegalArgumentException.class);
    }

    void wrongState(String call, Runnable run) {
        dueThrow(call, run, IllegalStateException.class);
    }

    private void dueThrow(String call, Runnable run, Class<? extends RuntimeException> want) {
        asked++;
        RuntimeException thrown = null;
        try {
            run.run();
        } catch (RuntimeException e) {
            thrown = e;
        }
        if (thrown == null || thrown.getClass() != want) {
            tellWrong(call + " threw " + thrown + ", due is " + want.getName());
        }
    }

    private void tellWrong(String what) {
        wrong++;
        System.out.println(test + sentence + ": " + what);
    }

    /** Ends the test's program with 1 if an answer was wrong. */
    void end() {
        System.out.println(test + ": " + asked + " answers, " + wrong + " wrong");
        if (wrong > 0 || asked == 0) {
            System.exit(1);
        }
    }
}
