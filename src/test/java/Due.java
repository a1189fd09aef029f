/** Counts the answers that are not the ones that are due; every test of the project uses it. */
final class Due {
    private String sentence = "";
    private int wrong = 0;
    private int asked = 0;

    /** From here on a wrong answer is told with the document's sentence that it breaks. */
    void about(String words) {
        sentence = "\"" + words + "\": ";
    }

    void is(String call, long got, long want) {
        asked++;
        if (got != want) {
            wrong++;
            System.out.println(sentence + call + " answered " + got + ", due is " + want);
        }
    }

    void is(String call, boolean got, boolean want) {
        is(call, got ? 1L : 0L, want ? 1L : 0L);
    }

    void rowThrows(CodePages x, int page, int i) {
        String call = "row(" + page + ", " + i + ")";
        String thrown = "nothing";
        String message = "";
        try {
            x.row(page, i);
        } catch (RuntimeException e) {
            thrown = e.getClass().getName();
            message = String.valueOf(e.getMessage());
        }
        is(call + " threw " + thrown + "; AIOOBE counts 1",
            thrown.equals("java.lang.ArrayIndexOutOfBoundsException"), true);
        // The machine's own exception has this text; rule 7 wants a throw statement instead.
        is(call + " let the machine throw", message.startsWith("Index "), false);
    }

    void end() {
        System.out.println(asked + " answers asked, " + wrong + " not as due");
        if (wrong != 0) {
            System.exit(1);
        }
    }
}
