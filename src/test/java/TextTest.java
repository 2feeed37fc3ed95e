import java.util.Random;

/** Promises 15 to 17: many texts, sound and spoilt, against the grammar read by recursion. */
public final class TextTest {
    private static final Random RANDOM = new Random(20261118);

    private TextTest() {
    }

    public static void main(String[] args) {
        int sound = 0;
        for (int i = 0; i < 40000; i++) {
            int use = RANDOM.nextInt(2);
            String names = use == 0 ? "hsrk" : "phu";
            String text = cut(i % 4 == 0 ? signs(names) : made(names, 4));
            if (i % 3 == 0) {
                text = spoilt(text, names);
            }
            sound += hold(use, names, text) ? 1 : 0;
        }
        Due.holds("many texts are sound, many are not", sound > 8000 && sound < 32000);
        Due.end();
    }

    /** Holds the class against the grammar: whether the text is sound. */
    private static boolean hold(int use, String names, String text) {
        GhostTable x = new GhostTable();
        int[] values = new int[4];
        for (int i = 0; i < 4; i++) {
            values[i] = RANDOM.nextInt(4) == 0 ? RANDOM.nextInt() : RANDOM.nextInt(12) - 2;
        }
        PlainText plain = new PlainText(text, names, values);
        int due = plain.whole();
        boolean sound = plain.fault < 0;
        Due.is("text " + text, Due.text(x, use, text), sound ? 1 : -10 - plain.fault);
        if (sound) {
            int held = use == 0 ? Math.max(-20, Math.min(20, due)) : Math.max(0, Math.min(999, due));
            Due.is("law " + text, x.law(use, values[0], values[1], values[2], values[3]), held);
        }
        return sound;
    }

    private static String cut(String text) {
        return text.length() > 50 ? text.substring(0, 50) : text;
    }

    private static char any(String signs) {
        return signs.charAt(RANDOM.nextInt(signs.length()));
    }

    private static String signs(String names) {
        StringBuilder b = new StringBuilder();
        int n = RANDOM.nextInt(10);
        for (int i = 0; i < n; i++) {
            b.append(any(names + "|&<=>+-*/%!(()0123456789"));
        }
        return b.toString();
    }

    private static String spoilt(String text, String names) {
        if (text.isEmpty()) {
            return text;
        }
        int at = RANDOM.nextInt(text.length());
        char sign = RANDOM.nextInt(3) == 0 ? (char) RANDOM.nextInt(256) : any("hsrkpu|&<=>+-*/%!()09");
        return cut(text.substring(0, at) + sign + text.substring(at + RANDOM.nextInt(2)));
    }

    private static String made(String names, int depth) {
        int kind = depth == 0 ? RANDOM.nextInt(2) : RANDOM.nextInt(9);
        switch (kind) {
            case 0: return Integer.toString(RANDOM.nextInt(RANDOM.nextBoolean() ? 10 : 10000));
            case 1: return Character.toString(any(names));
            case 2: return "!" + made(names, depth - 1);
            case 3: return "(" + made(names, depth - 1) + ")";
            default: return made(names, depth - 1) + any("|&<=>+-*/%+-*") + made(names, depth - 1);
        }
    }
}
