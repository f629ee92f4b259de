/** Counts the answers that are not as due; a helper of the tests. */
final class Check {
    /** A wrong answer brings others with it: of each place only the first ones are printed. */
    private static final int PRINTED = 5;

    private int wrong = 0;
    private int wrongHere = 0;
    private String where = "";

    void in(String place) {
        where = place;
        wrongHere = 0;
    }

    /** What follows tests this sentence of the document, or this part of one; it must stand there just so, once. */
    void sentence(String quote) {
        in(quote);
        int at = Document.text().indexOf(quote);
        if (at < 0 || at != Document.text().lastIndexOf(quote)) {
            fail("the document does not say so, or more than once");
        }
    }

    void due(String call, long got, long want) {
        if (got != want) {
            wrong++;
            wrongHere++;
            if (wrongHere <= PRINTED) {
                System.out.println(where + ": " + call + " answered " + got + ", due is " + want);
            }
        }
    }

    void due(String call, boolean got, boolean want) {
        due(call, got ? 1 : 0, want ? 1 : 0);
    }

    void fail(String what) {
        wrong++;
        System.out.println(where + ": " + what);
    }

    boolean isClean() {
        return wrong == 0;
    }

    void end() {
        System.out.println(wrong == 0 ? "all answers are as due" : wrong + " answers are not as due");
        if (wrong != 0) {
            System.exit(1);
        }
    }
}
