/** Compares answers with those that are due, and ends a test. */
final class Due {
    private static final int MOST_TOLD = 60;
    private static int wrong = 0;
    private static String sentence = "";

    private Due() {}

    /** The document's words that the following answers belong to. */
    static void sentence(String words) {
        sentence = "\"" + words + "\": ";
    }

    static void same(String call, long want, long got) {
        if (got != want && wrong++ < MOST_TOLD) {
            System.out.println(sentence + call + " answered " + got + ", due is " + want);
        }
    }

    static void same(String call, boolean want, boolean got) {
        same(call, want ? 1 : 0, got ? 1 : 0);
    }

    static void same(String what, String want, String got) {
        if (!want.equals(got) && wrong++ < MOST_TOLD) {
            System.out.println(sentence + what + " is\n  " + got + "\n  due is\n  " + want);
        }
    }

    static void end(String whenAllIsWell) {
        System.out.println(wrong == 0 ? whenAllIsWell : wrong + " answers are not as due");
        if (wrong != 0) {
            System.exit(1);
        }
    }
}
