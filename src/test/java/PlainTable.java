import java.util.ArrayList;
import java.util.List;

/**
 * The document written out a second time, as plainly and slowly as it reads, to hold the class against:
 * states are copied whole, texts are read and worked out by recursion, every table is tried.
 */
final class PlainTable {
    static final int BEYOND = Due.BEYOND;
    static final int NONE = Due.NONE;
    static final int STATE = Due.STATE;
    static final int FULL = Due.FULL;
    static final int KIND = Due.KIND;

    /** {KIND, m, HOUSE, RANK, LIKES, SHRINE, ANGER, ATE} of each of THE DEAD, {SORT, PARTS, HEAT, HOUSE, SHRINE} of each DISH. */
    private static final class World {
        final List<int[]> dead = new ArrayList<>();
        final List<int[]> dishes = new ArrayList<>();
        final int[] hunger = new int[4];
        int bell = 0;
        String eats = null;
        String fills = null;
        String tape = "";
        final List<Integer> waiting = new ArrayList<>();
        int z = 1;

        World copy() {
            World w = new World();
            for (int[] d : dead) {
                w.dead.add(d.clone());
            }
            for (int[] d : dishes) {
                w.dishes.add(d.clone());
            }
            System.arraycopy(hunger, 0, w.hunger, 0, 4);
            w.bell = bell;
            w.eats = eats;
            w.fills = fills;
            w.tape = tape;
            w.waiting.addAll(waiting);
            w.z = z;
            return w;
        }
    }

    private World now = new World();
    private World kept = null;
    private int images = 0;
    private final List<Integer> trace = new ArrayList<>();
    private final int[] told = new int[6];
    private final int[][] sheets = new int[4][];
    private final int[] bits = new int[4];

    private int error(int e) {
        told[-1000000000 - e]++;
        return e;
    }

    private boolean isDead(int d) {
        return d >= 0 && d < now.dead.size();
    }

    private boolean isDish(int d) {
        return d >= 0 && d < now.dishes.size();
    }

    private static boolean in(int v, int a, int b) {
        return a <= v && v <= b;
    }

    // ---- the dead, dishes

    int dead(int km, int hr, int ls) {
        boolean good = km >= 0 && km / 10 <= 6 && hr >= 0 && hr / 10 <= 3 && ls >= 0 && ls / 10 <= 5 && ls % 10 <= 2;
        if (!good) {
            return error(BEYOND);
        }
        if (now.dead.size() == 8) {
            return error(FULL);
        }
        now.dead.add(new int[] {km / 10, km % 10, hr / 10, hr % 10, ls / 10, ls % 10, 0, 0});
        return now.dead.size() - 1;
    }

    int ofDead(int dead, int what) {
        return isDead(dead) && in(what, 0, 8) ? fact(now, dead, what) : error(BEYOND);
    }

    private static int fact(World w, int dead, int what) {
        return what == 8 ? picks(w, dead) : w.dead.get(dead)[what];
    }

    int change(int dead, int what, int v) {
        int[] most = {-1, -1, -1, 9, 5, 2, 9999};
        if (!isDead(dead) || !in(what, 3, 6) || !in(v, 0, most[what])) {
            return error(BEYOND);
        }
        int was = now.dead.get(dead)[what];
        now.dead.get(dead)[what] = v;
        return was;
    }

    int become(int dead, int km) {
        if (!isDead(dead) || !in(km, 0, 69)) {
            return error(BEYOND);
        }
        int was = now.dead.get(dead)[0];
        now.dead.get(dead)[0] = km / 10;
        now.dead.get(dead)[1] = km % 10;
        return was;
    }

    private static final String[] UNDER = {"0", "01", "02", "03", "014", "025", "036"};

    int as(int dead, int kind) {
        if (!isDead(dead) || !in(kind, 0, 6)) {
            return error(BEYOND);
        }
        boolean is = UNDER[now.dead.get(dead)[0]].contains(Integer.toString(kind));
        return is ? now.dead.get(dead)[1] : error(KIND);
    }

    int takes(int dead, int dish) {
        return isDead(dead) && isDish(dish) ? taken(now, dead, dish) : error(BEYOND);
    }

    private static int taken(World w, int dead, int dish) {
        int[] g = w.dead.get(dead);
        int[] d = w.dishes.get(dish);
        int sum = byKind(g, d, g[0]) + eats(w, d[2], d[0], g[3], g[0]);
        return sum < 0 ? 0 : sum > d[2] ? d[2] : sum;
    }

    private static int byKind(int[] g, int[] d, int kind) {
        boolean liked = g[4] == d[0];
        if (kind == 0) {
            return 4;
        }
        if (kind == 1) {
            return byKind(g, d, 0) + g[3];
        }
        if (kind == 2) {
            return (byKind(g, d, 0) + g[1]) * (liked ? 2 : 1);
        }
        if (kind == 3) {
            return 2;
        }
        if (kind == 4) {
            return byKind(g, d, 1) * 2;
        }
        if (kind == 5) {
            return liked ? byKind(g, d, 2) : 0;
        }
        return byKind(g, d, 3) + (d[2] < 50 ? g[1] : 0);
    }

    private static int picks(World w, int dead) {
        int[] g = w.dead.get(dead);
        for (int liked = 1; liked >= 0; liked--) {
            for (int heat = 99; heat >= 0; heat--) {
                for (int i = 0; i < w.dishes.size(); i++) {
                    int[] d = w.dishes.get(i);
                    boolean fits = d[4] == g[5] && d[2] == heat && (d[0] == g[4]) == (liked == 1);
                    if (fits && taken(w, dead, i) > 0) {
                        return i;
                    }
                }
            }
        }
        return -1;
    }

    int dish(int sh, int parts, int heat) {
        int e = refusal(sh, parts, heat);
        return e != 0 ? error(e) : added(sh, parts, heat);
    }

    private int refusal(int sh, int parts, int heat) {
        boolean good = sh >= 0 && sh / 10 <= 5 && sh % 10 <= 3 && in(parts, 0, 20) && in(heat, 0, 99);
        return !good ? BEYOND : now.dishes.size() == 8 ? FULL : 0;
    }

    private int added(int sh, int parts, int heat) {
        now.dishes.add(new int[] {sh / 10, parts, heat, sh % 10, -1});
        return now.dishes.size() - 1;
    }

    int ofDish(int dish, int what) {
        return isDish(dish) && in(what, 0, 4) ? now.dishes.get(dish)[what] : error(BEYOND);
    }

    int cook(int dish, int what, int v) {
        if (!isDish(dish) || !in(what, 1, 2) || !in(v, 0, what == 1 ? 20 : 99)) {
            return error(BEYOND);
        }
        int was = now.dishes.get(dish)[what];
        now.dishes.get(dish)[what] = v;
        return was;
    }

    int serve(int dish, int shrine) {
        if (!isDish(dish) || !in(shrine, -1, 2)) {
            return error(BEYOND);
        }
        int was = now.dishes.get(dish)[4];
        now.dishes.get(dish)[4] = shrine;
        return was;
    }

    int eat(int dish) {
        if (!isDish(dish)) {
            return error(BEYOND);
        }
        int[] d = now.dishes.get(dish);
        if (d[1] == 0) {
            return error(STATE);
        }
        int before = now.hunger[d[3]];
        int after = Math.max(0, before - fills(now, d[1], d[2], before));
        now.hunger[d[3]] = after;
        d[1] = 0;
        d[4] = -1;
        return before - after;
    }

    int hunger(int house) {
        return in(house, 0, 3) ? now.hunger[house] : error(BEYOND);
    }

    int marry(int one, int other) {
        if (!in(one, 0, 3) || !in(other, 0, 3) || one == other) {
            return error(BEYOND);
        }
        int changed = 0;
        for (int[] g : now.dead) {
            if (g[2] == other) {
                g[2] = one;
                changed++;
            }
        }
        for (int[] d : now.dishes) {
            d[3] = d[3] == other ? one : d[3];
        }
        now.hunger[one] = Math.min(9999, now.hunger[one] + now.hunger[other]);
        now.hunger[other] = 0;
        return changed;
    }

    // ---- texts

    int feed(long word, int n) {
        if (!in(n, 1, 8)) {
            return error(BEYOND);
        }
        if (now.tape.length() + n > 50) {
            return error(FULL);
        }
        long left = word;
        for (int i = 0; i < n; i++) {
            now.tape += (char) (left & 255);
            left >>= 8;
        }
        return now.tape.length();
    }

    int text(int use) {
        if (!in(use, 0, 1)) {
            return error(BEYOND);
        }
        String text = now.tape;
        now.tape = "";
        PlainText read = new PlainText(text, use == 0 ? "hsrk" : "phu", new int[4]);
        read.whole();
        if (read.fault >= 0) {
            return -10 - read.fault;
        }
        if (use == 0) {
            now.eats = text;
        } else {
            now.fills = text;
        }
        return 1;
    }

    private static int eats(World w, int h, int s, int r, int k) {
        int v = w.eats == null ? 0 : new PlainText(w.eats, "hsrk", new int[] {h, s, r, k}).whole();
        return Math.max(-20, Math.min(20, v));
    }

    private static int fills(World w, int p, int h, int u) {
        String text = w.fills == null ? "p-(h>50)*p/2" : w.fills;
        return Math.max(0, Math.min(999, new PlainText(text, "phu", new int[] {p, h, u}).whole()));
    }

    int law(int use, int a, int b, int c, int d) {
        return use == 0 ? eats(now, a, b, c, d) : use == 1 ? fills(now, a, b, c) : error(BEYOND);
    }

    // ---- bells

    private static List<Integer> inOrder(World w) {
        List<Integer> order = new ArrayList<>();
        for (int rank = 9; rank >= 0; rank--) {
            for (int i = 0; i < w.dead.size(); i++) {
                if (w.dead.get(i)[3] == rank) {
                    order.add(i);
                }
            }
        }
        return order;
    }

    private static void bell(World w) {
        for (int i : inOrder(w)) {
            int[] g = w.dead.get(i);
            int pick = picks(w, i);
            if (pick < 0) {
                g[6] = Math.min(9999, g[6] + 1);
            } else {
                int heat = taken(w, i, pick);
                w.dishes.get(pick)[2] -= heat;
                g[7] = Math.min(99999, g[7] + heat);
                g[6] = 0;
            }
        }
        for (int[] d : w.dishes) {
            d[2] = Math.max(0, d[4] < 0 ? d[2] - 1 : d[2] - 2);
        }
        for (int i = 0; i < 4; i++) {
            w.hunger[i] = Math.min(9999, w.hunger[i] + 1);
        }
        w.bell++;
    }

    private static int anger(World w) {
        int sum = 0;
        for (int[] g : w.dead) {
            sum += g[6];
        }
        return sum;
    }

    int bells(int n) {
        if (!in(n, 1, 120)) {
            return error(BEYOND);
        }
        if (now.bell + n > 9999) {
            return error(STATE);
        }
        for (int i = 0; i < n; i++) {
            bell(now);
        }
        return anger(now);
    }

    private int draw() {
        now.z = now.z * 1103515245 + 12345;
        return now.z >>> 8;
    }

    int loose(int n) {
        if (!in(n, 1, 120)) {
            return error(BEYOND);
        }
        if (now.bell + n > 9999) {
            return error(STATE);
        }
        for (int i = 0; i < n; i++) {
            for (int[] d : now.dishes) {
                if (d[4] >= 0 && draw() % 10 == 0) {
                    d[1] = Math.max(0, d[1] - draw() % 3 - 1);
                }
            }
            bell(now);
        }
        return anger(now);
    }

    // ---- ahead

    private static World ahead(World from, int n) {
        World w = from.copy();
        for (int i = 0; i < n; i++) {
            bell(w);
        }
        return w;
    }

    int then(int n, int dead, int what) {
        return in(n, 0, 120) && isDead(dead) && in(what, 0, 8) ? fact(ahead(now, n), dead, what) : error(BEYOND);
    }

    int thenHeat(int n, int dish) {
        return in(n, 0, 120) && isDish(dish) ? ahead(now, n).dishes.get(dish)[2] : error(BEYOND);
    }

    int angers(int n) {
        return in(n, 0, 120) ? anger(ahead(now, n)) : error(BEYOND);
    }

    int table(int n, int what) {
        if (!in(n, 1, 12) || !in(what, -1, 4)) {
            return error(BEYOND);
        }
        if (what >= now.dishes.size()) {
            return error(NONE);
        }
        int[] row = new int[5];
        int[] best = null;
        int least = 0;
        for (int code = 0; code < 1024; code++) {
            for (int i = 0; i < 5; i++) {
                row[i] = code >> (8 - 2 * i) & 3;
            }
            World w = now.copy();
            boolean fits = true;
            for (int i = 0; i < 5; i++) {
                if (i < w.dishes.size()) {
                    w.dishes.get(i)[4] = row[i] == 3 ? -1 : row[i];
                } else {
                    fits = fits && row[i] == 0;
                }
            }
            if (fits) {
                int sum = anger(ahead(w, n));
                if (best == null || sum < least) {
                    least = sum;
                    best = row.clone();
                }
            }
        }
        return what < 0 ? least : best[what];
    }

    int forget(int n, int what) {
        if (!in(n, 0, 120) || !in(what, 0, 1)) {
            return error(BEYOND);
        }
        if (now.dead.isEmpty()) {
            return error(NONE);
        }
        int whom = -1;
        int least = 0;
        for (int i = 0; i < now.dead.size(); i++) {
            World w = now.copy();
            w.dead.remove(i);
            int sum = anger(ahead(w, n));
            if (whom < 0 || sum < least) {
                whom = i;
                least = sum;
            }
        }
        return what == 0 ? whom : least;
    }

    int needs(int dead, int dish, int n) {
        if (!isDead(dead) || !isDish(dish) || !in(n, 1, 30)) {
            return error(BEYOND);
        }
        for (int heat = 0; heat <= 99; heat++) {
            World w = now.copy();
            w.dishes.get(dish)[2] = heat;
            boolean all = true;
            for (int i = 0; i < n && all; i++) {
                w.dead.get(dead)[6] = 7;
                bell(w);
                all = w.dead.get(dead)[6] == 0;
            }
            if (all) {
                return heat;
            }
        }
        return error(NONE);
    }

    int first(int n) {
        if (!in(n, 0, 120)) {
            return error(BEYOND);
        }
        for (int i = 0; i <= n; i++) {
            World w = ahead(now, i);
            for (int d = 0; d < w.dead.size(); d++) {
                if (w.dead.get(d)[6] > 2) {
                    return d;
                }
            }
        }
        return error(NONE);
    }

    int share(int dead, int parts, int law) {
        if (!isDead(dead) || !in(parts, 1, 99) || !in(law, 0, 2)) {
            return error(BEYOND);
        }
        int[] one = now.dead.get(dead);
        int many = 0;
        int weights = 0;
        int left = parts;
        int got = 0;
        for (int i : inOrder(now)) {
            int[] g = now.dead.get(i);
            if (g[5] == one[5]) {
                many++;
                weights += g[3] + 1;
                int piece = Math.min(3, left);
                left -= piece;
                got = i == dead ? piece : got;
            }
        }
        return law == 0 ? parts / many : law == 1 ? parts * (one[3] + 1) / weights : got;
    }

    // ---- draws, voices, sheets, images, what is told

    int seed(int v) {
        int was = now.z;
        now.z = v;
        return was;
    }

    /** The BODIES as a tree of classes, in which Java itself finds the super's. */
    private static class Dead {
        int n;
        int m;
        List<Integer> t;

        int comes(int x) {
            t.add(10);
            return x + n;
        }

        int sniffs(int x) {
            t.add(11);
            return comes(x) * 2;
        }

        int eats(int x) {
            t.add(12);
            return x - m;
        }

        int tells(int x) {
            t.add(13);
            return sniffs(x) ^ eats(x);
        }
    }

    private static class Elder extends Dead {
        @Override
        int sniffs(int x) {
            t.add(20);
            return super.sniffs(x) - eats(1);
        }
    }

    private static class Eater extends Dead {
        @Override
        int comes(int x) {
            t.add(30);
            return super.comes(x) * 3;
        }
    }

    private static class Forgotten extends Dead {
        @Override
        int eats(int x) {
            t.add(40);
            return -super.eats(x);
        }
    }

    private static final class King extends Elder {
        @Override
        int sniffs(int x) {
            t.add(50);
            return super.sniffs(x + 1);
        }
    }

    private static final class Picky extends Eater {
        @Override
        int tells(int x) {
            t.add(60);
            return super.tells(x) - comes(2);
        }
    }

    private static final class Nameless extends Forgotten {
        @Override
        int eats(int x) {
            t.add(70);
            return super.eats(x) ^ n;
        }

        @Override
        int tells(int x) {
            t.add(71);
            return sniffs(x) - super.tells(x);
        }
    }

    int voice(int dead, int act, int x) {
        if (!isDead(dead) || !in(act, 0, 3)) {
            return error(BEYOND);
        }
        Dead[] kinds = {new Dead(), new Elder(), new Eater(), new Forgotten(), new King(), new Picky(), new Nameless()};
        Dead one = kinds[now.dead.get(dead)[0]];
        one.n = dead;
        one.m = now.dead.get(dead)[1];
        one.t = trace;
        trace.clear();
        return act == 0 ? one.comes(x) : act == 1 ? one.sniffs(x) : act == 2 ? one.eats(x) : one.tells(x);
    }

    int trace(int i) {
        return in(i, 0, trace.size() - 1) ? trace.get(i) : error(NONE);
    }

    int sheet(int sheet, int b, int n) {
        if (!in(sheet, 0, 3) || b != 0 && b != 8 && b != 16 && b != 32) {
            return error(BEYOND);
        }
        if (b == 0) {
            sheets[sheet] = null;
            return 1;
        }
        if (n < 0) {
            return error(STATE);
        }
        if (n > 40) {
            return error(BEYOND);
        }
        sheets[sheet] = new int[n];
        bits[sheet] = b;
        return 1;
    }

    int put(int sheet, int i, int v) {
        if (!in(sheet, 0, 3)) {
            return error(BEYOND);
        }
        if (sheets[sheet] == null) {
            return error(NONE);
        }
        if (!in(i, 0, sheets[sheet].length - 1)) {
            return error(BEYOND);
        }
        sheets[sheet][i] = bits[sheet] == 8 ? (byte) v : bits[sheet] == 16 ? (short) v : v;
        return 1;
    }

    int move(int sheet, int i, int other, int j, int n) {
        if (!in(sheet, 0, 3) || !in(other, 0, 3)) {
            return error(BEYOND);
        }
        if (sheets[sheet] == null || sheets[other] == null) {
            return error(NONE);
        }
        if (bits[sheet] != bits[other]) {
            return error(KIND);
        }
        boolean stand = (long) i + n <= sheets[sheet].length && (long) j + n <= sheets[other].length;
        if (n < 0 || i < 0 || j < 0 || !stand) {
            return error(BEYOND);
        }
        int[] were = sheets[sheet].clone();
        for (int k = 0; k < n; k++) {
            sheets[other][j + k] = were[i + k];
        }
        return n;
    }

    int dishes(int sheet) {
        if (!in(sheet, 0, 3)) {
            return error(BEYOND);
        }
        int[] s = sheets[sheet];
        if (s == null) {
            return error(NONE);
        }
        int came = 0;
        while (came * 3 + 3 <= s.length && refusal(s[came * 3], s[came * 3 + 1], s[came * 3 + 2]) == 0) {
            added(s[came * 3], s[came * 3 + 1], s[came * 3 + 2]);
            came++;
        }
        return came;
    }

    int image() {
        kept = now.copy();
        return ++images;
    }

    int restore() {
        if (kept == null) {
            return error(NONE);
        }
        now = kept.copy();
        return now.bell;
    }

    int tell(int v) {
        if (now.waiting.size() == 20) {
            return error(FULL);
        }
        now.waiting.add(v);
        return now.waiting.size();
    }

    int check(int dead) {
        List<Integer> numbers = new ArrayList<>(now.waiting);
        now.waiting.clear();
        if (!isDead(dead)) {
            return error(BEYOND);
        }
        for (int i = 0; i < numbers.size(); i++) {
            if (ahead(now, i + 1).dead.get(dead)[6] != numbers.get(i)) {
                return 1 + i;
            }
        }
        return 0;
    }

    int count(int what) {
        int ate = 0;
        for (int[] g : now.dead) {
            ate += g[7];
        }
        int heat = 0;
        for (int[] d : now.dishes) {
            heat += d[2];
        }
        int[] counts = {now.bell, now.dead.size(), now.dishes.size(), anger(now), ate, heat, now.tape.length(),
            now.waiting.size(), trace.size(), now.z};
        return in(what, 0, 9) ? counts[what] : error(BEYOND);
    }

    int told(int k) {
        return in(k, 1, 5) ? told[k] : error(BEYOND);
    }
}
