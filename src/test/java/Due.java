/** Counts the answers that are not the ones due, and ends a test with exit code 1 if there was one. */
final class Due {
    private int wrong;
    private String words = "";

    /** What comes next tests these words of the document; an answer that isn't due is told with them. */
    void sentence(String where, String itsWords) {
        words = where + " '" + itsWords + "': ";
    }

    void is(String call, long got, long want) {
        if (got != want) {
            wrong++;
            System.out.println(words + call + " answered " + got + ", due is " + want);
        }
    }

    void is(String call, boolean got, boolean want) {
        is(call, got ? 1 : 0, want ? 1 : 0);
    }

    /** The name of what the call throws must be just this one. */
    void refuses(String call, String want, Runnable what) {
        String got = "nothing";
        try {
            what.run();
        } catch (RuntimeException e) {
            got = e.getClass().getSimpleName();
        }
        if (!got.equals(want)) {
            wrong++;
            System.out.println(words + call + " threw " + got + ", due is " + want);
        }
    }

    void end() {
        System.out.println(wrong == 0 ? "all answers are as due" : wrong + " answers are not as due");
        if (wrong != 0) {
            System.exit(1);
        }
    }
}
