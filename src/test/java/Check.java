/** Counts named tests; a test has failed if one of its answers is not the one that is due. */
final class Check {
    private String test = null;
    private boolean fine = true;
    private boolean allFine = true;

    void test(String name) {
        close();
        test = name;
        fine = true;
    }

    /** A test of an edge that a sentence of the document names; the part of it must have the words quoted. */
    void edge(String part, String words) {
        edge(part, words, "");
    }

    void edge(String part, String words, String which) {
        test("edge " + part + ": " + words + (which.isEmpty() ? "" : " (" + which + ")"));
        due("the document has these words", Doc.has(part, words), true);
    }

    void due(String call, int got, int want) {
        if (got != want) {
            fine = false;
            System.out.println("  " + test + ": " + call + " answered " + got + ", due is " + want);
        }
    }

    void due(String call, boolean got, boolean want) {
        due(call, got ? 1 : 0, want ? 1 : 0);
    }

    /** Checks a row of answers, one after another. */
    void row(String calls, int[] got, int... want) {
        due(calls + ": how many", got.length, want.length);
        for (int i = 0; i < got.length && i < want.length; i++) {
            due(calls + " at " + i, got[i], want[i]);
        }
    }

    private void close() {
        if (test != null) {
            System.out.println((fine ? "PASS " : "FAIL ") + test);
            allFine &= fine;
        }
    }

    void end() {
        close();
        System.exit(allFine ? 0 : 1);
    }
}
