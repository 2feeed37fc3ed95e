import java.util.Random;

/** All promises: long runs of calls by chance (of a fixed seed), each answer held against PlainTable's. */
public final class RunsTest {
    private static final int RUNS = 100;
    private static final int CALLS = 450;
    private static final int[] WILD = {Integer.MIN_VALUE, Integer.MAX_VALUE, -1, -2, 0, 1, 9, 10, 40, 41, 100, 120, 121,
        9999, 10000, Due.BEYOND, Due.NONE};
    private static final String[] TEXTS = {"h/9-r", "k*2-3", "(h>50)*5-(s=1)*9", "0-r", "!(s=2)*(0-20)", "20", "h%7-3",
        "(k=0)*(h>50)*(0-20)", "s-2", "h<30|s=r&k>2"};
    private static final String[] FILL_TEXTS = {"p", "p+h/2", "u/2", "p*p-h", "(h<20)*999", "0", "u+1"};

    private final Random random;
    private final GhostTable x = new GhostTable();
    private final PlainTable y = new PlainTable();
    private final int run;

    private RunsTest(int run) {
        this.run = run;
        random = new Random(run);
    }

    public static void main(String[] args) {
        for (int run = 0; run < RUNS; run++) {
            new RunsTest(run).go();
        }
        Due.end();
    }

    private void go() {
        int dead = random.nextInt(9);
        int dishes = random.nextInt(9);
        for (int i = 0; i < dead; i++) {
            answer(0);
        }
        for (int i = 0; i < dishes; i++) {
            answer(6);
            answer(9);
        }
        for (int i = 0; i < CALLS; i++) {
            // The dear ones are asked more seldom.
            int call = random.nextInt(39);
            boolean dear = call == 22 || call == 23 || call == 24 || call == 25;
            answer(dear && random.nextInt(4) != 0 ? 17 + random.nextInt(4) : call);
        }
        for (int k = 1; k <= 5; k++) {
            Due.is("run " + run + " told " + k, x.told(k), y.told(k));
        }
    }

    /** Mostly a number from a to b, at times one just outside, or any. */
    private int num(int a, int b) {
        int luck = random.nextInt(40);
        if (luck == 0) {
            return WILD[random.nextInt(WILD.length)];
        }
        if (luck == 1) {
            return random.nextBoolean() ? a - 1 : b + 1;
        }
        return a + random.nextInt(b - a + 1);
    }

    private int dead() {
        return num(0, Math.max(0, y.count(1) - 1));
    }

    private int dish() {
        return num(0, Math.max(0, y.count(2) - 1));
    }

    private int tens(int most, int rest) {
        return random.nextInt(30) == 0 ? num(0, 70) : num(0, most) * 10 + num(0, rest);
    }

    private void due(String call, int got, int want) {
        Due.is("run " + run + ": " + call, got, want);
    }

    private void answer(int call) {
        if (call < 13) {
            table(call);
        } else if (call < 18) {
            textsAndBells(call);
        } else if (call < 26) {
            ahead(call);
        } else {
            rest(call);
        }
    }

    private void table(int call) {
        int a = dead();
        int d = dish();
        switch (call) {
            case 0: {
                int km = tens(6, 9);
                int hr = tens(3, 9);
                int ls = tens(5, 2);
                due("dead " + km + " " + hr + " " + ls, x.dead(km, hr, ls), y.dead(km, hr, ls));
                break;
            }
            case 1: {
                int what = num(0, 8);
                due("ofDead " + a + " " + what, x.ofDead(a, what), y.ofDead(a, what));
                break;
            }
            case 2: {
                int what = num(3, 6);
                int v = num(0, what == 3 ? 9 : what == 4 ? 5 : what == 5 ? 2 : 9999);
                due("change " + a + " " + what + " " + v, x.change(a, what, v), y.change(a, what, v));
                break;
            }
            case 3: {
                int km = tens(6, 9);
                due("become " + a + " " + km, x.become(a, km), y.become(a, km));
                break;
            }
            case 4: {
                int kind = num(0, 6);
                due("as " + a + " " + kind, x.as(a, kind), y.as(a, kind));
                break;
            }
            case 5:
                due("takes " + a + " " + d, x.takes(a, d), y.takes(a, d));
                break;
            case 6: {
                int sh = tens(5, 3);
                int parts = num(0, 20);
                int heat = num(0, 99);
                due("dish " + sh + " " + parts + " " + heat, x.dish(sh, parts, heat), y.dish(sh, parts, heat));
                break;
            }
            case 7: {
                int what = num(0, 4);
                due("ofDish " + d + " " + what, x.ofDish(d, what), y.ofDish(d, what));
                break;
            }
            case 8: {
                int what = num(1, 2);
                int v = num(0, what == 1 ? 20 : 99);
                due("cook " + d + " " + what + " " + v, x.cook(d, what, v), y.cook(d, what, v));
                break;
            }
            case 9: {
                int shrine = num(-1, 2);
                due("serve " + d + " " + shrine, x.serve(d, shrine), y.serve(d, shrine));
                break;
            }
            case 10:
                due("eat " + d, x.eat(d), y.eat(d));
                break;
            case 11: {
                int house = num(0, 3);
                due("hunger " + house, x.hunger(house), y.hunger(house));
                break;
            }
            default: {
                int one = num(0, 3);
                int other = num(0, 3);
                due("marry " + one + " " + other, x.marry(one, other), y.marry(one, other));
                break;
            }
        }
    }

    private void feedAll(String text) {
        for (int at = 0; at < text.length(); at += 8) {
            int n = Math.min(8, text.length() - at);
            long word = random.nextLong() << 8 << 8 * (n - 1);
            for (int i = 0; i < n; i++) {
                word |= (long) text.charAt(at + i) << (8 * i);
            }
            due("feed " + text, x.feed(word, n), y.feed(word, n));
        }
    }

    private void textsAndBells(int call) {
        switch (call) {
            case 13: {
                long word = random.nextLong();
                int n = num(1, 8);
                due("feed", x.feed(word, n), y.feed(word, n));
                break;
            }
            case 14: {
                int use = num(0, 1);
                if (random.nextInt(3) != 0) {
                    due("text", x.text(use), y.text(use));
                    feedAll(use == 0 ? TEXTS[random.nextInt(TEXTS.length)] : FILL_TEXTS[random.nextInt(FILL_TEXTS.length)]);
                }
                due("text " + use, x.text(use), y.text(use));
                break;
            }
            case 15: {
                int use = num(0, 1);
                int a = num(0, 99);
                int b = num(0, 99);
                int c = num(0, 9);
                int d = num(0, 6);
                due("law " + use, x.law(use, a, b, c, d), y.law(use, a, b, c, d));
                break;
            }
            default: {
                int n = random.nextInt(8) == 0 ? num(1, 120) : num(1, 5);
                if (call == 16) {
                    due("bells " + n, x.bells(n), y.bells(n));
                } else {
                    due("loose " + n, x.loose(n), y.loose(n));
                }
                break;
            }
        }
    }

    private void ahead(int call) {
        int n = random.nextInt(8) == 0 ? num(0, 120) : num(0, 12);
        int a = dead();
        int d = dish();
        switch (call) {
            case 18: {
                int what = num(0, 8);
                due("then " + n + " " + a + " " + what, x.then(n, a, what), y.then(n, a, what));
                break;
            }
            case 19:
                due("thenHeat " + n + " " + d, x.thenHeat(n, d), y.thenHeat(n, d));
                break;
            case 20:
                due("angers " + n, x.angers(n), y.angers(n));
                break;
            case 21: {
                int p = num(1, 99);
                int law = num(0, 2);
                due("share " + a + " " + p + " " + law, x.share(a, p, law), y.share(a, p, law));
                break;
            }
            case 22: {
                int bells = random.nextInt(12) == 0 ? num(1, 12) : num(1, 3);
                int what = num(-1, 4);
                due("table " + bells + " " + what, x.table(bells, what), y.table(bells, what));
                break;
            }
            case 23: {
                int what = num(0, 1);
                due("forget " + n + " " + what, x.forget(n, what), y.forget(n, what));
                break;
            }
            case 24: {
                int bells = random.nextInt(4) == 0 ? num(1, 30) : num(1, 4);
                due("needs " + a + " " + d + " " + bells, x.needs(a, d, bells), y.needs(a, d, bells));
                break;
            }
            default:
                due("first " + n, x.first(n), y.first(n));
                break;
        }
    }

    private void rest(int call) {
        int a = dead();
        int s = num(0, 3);
        switch (call) {
            case 26: {
                int v = random.nextInt();
                due("seed " + v, x.seed(v), y.seed(v));
                break;
            }
            case 27: {
                int act = num(0, 3);
                int v = random.nextBoolean() ? random.nextInt() : num(-5, 5);
                due("voice " + a + " " + act + " " + v, x.voice(a, act, v), y.voice(a, act, v));
                break;
            }
            case 28: {
                int i = num(0, 9);
                due("trace " + i, x.trace(i), y.trace(i));
                break;
            }
            case 29: {
                int bits = num(0, 3) * 8;
                bits = bits == 24 ? 32 : bits;
                int n = num(0, 40);
                due("sheet " + s + " " + bits + " " + n, x.sheet(s, bits, n), y.sheet(s, bits, n));
                break;
            }
            case 30: {
                int i = num(0, 8);
                int v = random.nextInt(4) == 0 ? random.nextInt() : num(0, 20);
                due("put " + s + " " + i + " " + v, x.put(s, i, v), y.put(s, i, v));
                break;
            }
            case 31: {
                int i = num(0, 9);
                int other = random.nextBoolean() ? s : num(0, 3);
                int j = num(0, 9);
                int n = num(0, 9);
                due("move " + s + " " + i + " " + other + " " + j + " " + n, x.move(s, i, other, j, n),
                    y.move(s, i, other, j, n));
                break;
            }
            case 32:
                due("dishes " + s, x.dishes(s), y.dishes(s));
                break;
            case 33:
                due("image", x.image(), y.image());
                break;
            case 34:
                due("restore", x.restore(), y.restore());
                break;
            case 35: {
                // Mostly the anger that is due, so that check() has something to go on with.
                int behind = 1 + y.count(7);
                int v = y.then(behind, a, 6);
                due("then " + behind + " " + a, x.then(behind, a, 6), v);
                v = random.nextInt(9) == 0 ? num(0, 5) : v;
                due("tell " + v, x.tell(v), y.tell(v));
                break;
            }
            case 36:
                due("check " + a, x.check(a), y.check(a));
                break;
            case 37: {
                int what = num(0, 9);
                due("count " + what, x.count(what), y.count(what));
                break;
            }
            default: {
                int k = num(1, 5);
                due("told " + k, x.told(k), y.told(k));
                break;
            }
        }
    }
}
