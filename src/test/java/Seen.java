/** What can be seen of an object, as a text, to hold two of them against each other. */
final class Seen {
    private Seen() {
    }

    /** All that asking alone can see, but for THE TRACE and what told() tells. */
    static String byAsking(GhostTable x) {
        StringBuilder b = new StringBuilder();
        for (int d = 0; d < x.count(1); d++) {
            for (int what = 0; what <= 8; what++) {
                b.append(x.ofDead(d, what)).append(' ');
            }
        }
        for (int d = 0; d < x.count(2); d++) {
            for (int what = 0; what <= 4; what++) {
                b.append(x.ofDish(d, what)).append(' ');
            }
        }
        for (int i = 0; i < 4; i++) {
            b.append(x.hunger(i)).append(' ');
        }
        for (int i = 0; i < 10; i++) {
            b.append(i == 8 ? 0 : x.count(i)).append(' ');
        }
        b.append(x.law(0, 17, 3, 2, 1)).append(' ').append(x.law(1, 17, 60, 2, 1));
        return b.toString();
    }

    /** All there is but what told() tells: THE TRACE, THE TAPE's bytes, SHEETS, the IMAGE. The object is of no use then. */
    static String byUsingUp(GhostTable x) {
        StringBuilder b = new StringBuilder(byAsking(x));
        for (int i = 0; i < 10; i++) {
            b.append(' ').append(x.trace(i));
        }
        b.append(' ').append(x.check(0)).append(' ').append(x.angers(9)).append(' ').append(x.text(0));
        b.append(' ').append(x.law(0, 17, 3, 2, 1));
        sheets(x, b);
        b.append(" image: ").append(x.restore()).append(' ').append(byAsking(x)).append(' ').append(x.text(0));
        b.append(' ').append(x.law(0, 17, 3, 2, 1)).append(' ').append(x.check(0)).append(' ').append(x.image());
        return b.toString();
    }

    private static void sheets(GhostTable x, StringBuilder b) {
        for (int s = 0; s < 4; s++) {
            for (int n = 0; n <= 41; n++) {
                b.append(' ').append(x.move(s, 0, s, 0, n));
            }
            b.append(' ').append(x.move(s, 0, (s + 1) % 4, 0, 0)).append(' ').append(x.dishes(s));
        }
        b.append(' ').append(byAsking(x));
    }
}
