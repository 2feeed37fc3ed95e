/** A text read by the document's grammar, a method for each of its letters, and worked out as it is read. */
final class PlainText {
    /** The FAULT, or -1. */
    int fault = -1;
    private final String text;
    private final String names;
    private final int[] values;
    private int at = 0;
    private int open = 0;

    PlainText(String text, String names, int[] values) {
        this.text = text;
        this.names = names;
        this.values = values;
    }

    int whole() {
        int v = t();
        if (fault < 0 && at < text.length()) {
            fault = at;
        }
        return v;
    }

    /** The sign that comes, if it is one of these; nothing comes behind a fault. */
    private char next(String signs) {
        boolean is = fault < 0 && at < text.length() && signs.indexOf(text.charAt(at)) >= 0;
        return is ? text.charAt(at++) : 0;
    }

    private int wrong(int place) {
        fault = fault < 0 ? place : fault;
        return 0;
    }

    private static int bit(boolean b) {
        return b ? 1 : 0;
    }

    private int t() {
        int v = a();
        while (next("|") != 0) {
            int w = a();
            v = bit(v != 0 || w != 0);
        }
        return v;
    }

    private int a() {
        int v = b();
        while (next("&") != 0) {
            int w = b();
            v = bit(v != 0 && w != 0);
        }
        return v;
    }

    private int b() {
        int v = s();
        char sign = next("<=>");
        if (sign == 0) {
            return v;
        }
        int w = s();
        return bit(sign == '<' ? v < w : sign == '=' ? v == w : v > w);
    }

    private int s() {
        int v = p();
        for (char sign = next("+-"); sign != 0; sign = next("+-")) {
            int w = p();
            v = sign == '+' ? v + w : v - w;
        }
        return v;
    }

    private int p() {
        int v = q();
        for (char sign = next("*/%"); sign != 0; sign = next("*/%")) {
            int w = q();
            v = sign == '*' ? v * w : w == 0 ? 0 : sign == '/' ? v / w : v % w;
        }
        return v;
    }

    private int q() {
        if (fault >= 0) {
            return 0;
        }
        int start = at;
        char name = next(names);
        if (name != 0) {
            return values[names.indexOf(name)];
        }
        char opened = next("!(");
        if (opened != 0) {
            return opened(opened, start);
        }
        while (at < start + 4 && next("0123456789") != 0) {
            continue;
        }
        return at > start ? Integer.parseInt(text.substring(start, at)) : wrong(at);
    }

    private int opened(char sign, int start) {
        if (open == 5) {
            return wrong(start);
        }
        open++;
        int v;
        if (sign == '!') {
            v = bit(q() == 0);
        } else {
            v = t();
            if (next(")") == 0) {
                wrong(at);
            }
        }
        open--;
        return v;
    }
}
