/** Counts answers that are due and those that are not. */
final class Due {
    private int right = 0;
    private int wrong = 0;
    private String promise = "";

    void promise(String name) {
        promise = name;
    }

    /** What comes now tests this sentence of a promise; DocTest looks whether the document says it. */
    void says(int number, String sentence) {
        promise = "promise " + number + ": '" + sentence + "'";
    }

    /** What comes now tests this sentence of the document's terms. */
    void terms(String sentence) {
        promise = "terms: '" + sentence + "'";
    }

    void is(String call, long got, long want) {
        if (got == want) {
            right++;
        } else {
            wrong++;
            System.out.println(promise + ": " + call + " answered " + got + ", due is " + want);
        }
    }

    void holds(String what, boolean so) {
        is(what, so ? 1 : 0, 1);
    }

    /** Ends the test: with exit code 1 if an answer was wrong, or if there was none at all. */
    void close() {
        System.out.println(right + " answers as due, " + wrong + " not");
        if (wrong != 0 || right == 0) {
            System.exit(1);
        }
    }
}
