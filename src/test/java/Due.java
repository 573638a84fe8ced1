/** Counts the answers that are not as due; each test's main method closes with {@link #finish()}. */
final class Due {
    private static String sentence = "";
    private static int asked = 0;
    private static int wrong = 0;

    private Due() {
    }

    /** What is asked from here on tests these words of the document; a failure names them. */
    static void sentence(String where, String words) {
        sentence = where + " \"" + words + "\": ";
    }

    static void is(String call, long want, long got) {
        asked++;
        if (got != want) {
            wrong++;
            System.out.println(sentence + call + " answered " + got + ", due is " + want);
        }
    }

    static void is(String call, boolean want, boolean got) {
        is(call, want ? 1 : 0, got ? 1 : 0);
    }

    static void is(String call, String want, String got) {
        asked++;
        if (!got.equals(want)) {
            wrong++;
            System.out.println(sentence + call + " left\n  " + got + "\ndue is\n  " + want);
        }
    }

    static void finish() {
        System.out.println((asked - wrong) + " passed, " + wrong + " failed");
        if (wrong != 0) {
            System.exit(1);
        }
    }
}
