/** What the tests share: answers that are due, and texts as words for the tape. */
final class Due {
    static final int BEYOND = -1000000001;
    static final int NONE = -1000000002;
    static final int STATE = -1000000003;
    static final int FULL = -1000000004;
    static final int KIND = -1000000005;

    private static int wrong = 0;

    private Due() {
    }

    static void is(String call, long got, long want) {
        if (got != want) {
            wrong++;
            System.out.println(call + " answered " + got + ", due is " + want);
        }
    }

    static void holds(String claim, boolean so) {
        if (!so) {
            wrong++;
            System.out.println("does not hold: " + claim);
        }
    }

    /** Feeds a text to the tape, eight bytes at a time. */
    static void feed(GhostTable x, String text) {
        for (int at = 0; at < text.length(); at += 8) {
            int n = Math.min(8, text.length() - at);
            long word = 0;
            for (int i = 0; i < n; i++) {
                word |= (long) (text.charAt(at + i) & 255) << (8 * i);
            }
            x.feed(word, n);
        }
    }

    static int text(GhostTable x, int use, String text) {
        feed(x, text);
        return x.text(use);
    }

    static void end() {
        System.out.println(wrong == 0 ? "all answers are as due" : wrong + " answers are not as due");
        if (wrong != 0) {
            System.exit(1);
        }
    }
}
