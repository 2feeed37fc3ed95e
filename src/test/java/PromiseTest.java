/** Each promise by its number: ordinary inputs, the edges that the document names, wrong inputs. */
public final class PromiseTest {
    private static final int MIN = Integer.MIN_VALUE;
    private static final int MAX = Integer.MAX_VALUE;

    private PromiseTest() {
    }

    public static void main(String[] args) {
        promise1();
        promises2and3();
        promises4to6();
        promise7();
        promises8to11();
        promises12to14();
        promises15and16();
        promise17();
        promise18();
        promise19();
        promises20to22();
        promise23();
        promise24();
        promise25();
        promise26();
        promise27();
        promise28();
        promises29and30();
        promises31and32();
        promise33();
        promise34();
        promises35and36();
        promises37and38();
        promise39();
        promise40();
        Due.end();
    }

    private static void promise1() {
        GhostTable x = new GhostTable();
        for (int what = 0; what <= 8; what++) {
            Due.is("1 count " + what, x.count(what), 0);
        }
        Due.is("1 z", x.count(9), 1);
        for (int house = 0; house < 4; house++) {
            Due.is("1 hunger", x.hunger(house), 0);
        }
        Due.is("1 no dead", x.ofDead(0, 0), Due.BEYOND);
        Due.is("1 no dish", x.ofDish(0, 0), Due.BEYOND);
        Due.is("1 sheet missing", x.put(0, 0, 0), Due.NONE);
        Due.is("1 no image", x.restore(), Due.NONE);
        Due.is("1 no trace", x.trace(0), Due.NONE);
        Due.is("1 told beyond", x.told(1), 2);
        Due.is("1 told none", x.told(2), 3);
        Due.is("1 told state", x.told(3), 0);
    }

    private static void promises2and3() {
        GhostTable x = new GhostTable();
        Due.is("2 least", x.dead(0, 0, 0), 0);
        Due.is("2 most", x.dead(69, 39, 52), 1);
        int[] most = {6, 9, 3, 9, 5, 2, 0, 0, -1};
        for (int what = 0; what < 9; what++) {
            Due.is("3 least " + what, x.ofDead(0, what), what == 8 ? -1 : 0);
            Due.is("3 most " + what, x.ofDead(1, what), most[what]);
        }
        int[] wrongKm = {-1, 70, MIN, MAX};
        int[] wrongHr = {-1, 40, MIN, MAX};
        int[] wrongLs = {-1, 3, 9, 13, 53, 60, MIN, MAX};
        for (int v : wrongKm) {
            Due.is("2 km " + v, x.dead(v, 0, 0), Due.BEYOND);
        }
        for (int v : wrongHr) {
            Due.is("2 hr " + v, x.dead(0, v, 0), Due.BEYOND);
        }
        for (int v : wrongLs) {
            Due.is("2 ls " + v, x.dead(0, 0, v), Due.BEYOND);
        }
        Due.is("2 refused ones came not", x.count(1), 2);
        for (int i = 2; i < 8; i++) {
            Due.is("2 number", x.dead(0, 0, 0), i);
        }
        Due.is("2 beyond ahead of full", x.dead(70, 0, 0), Due.BEYOND);
        Due.is("2 full", x.dead(0, 0, 0), Due.FULL);
        int[][] wrong = {{-1, 0}, {8, 0}, {0, -1}, {0, 9}, {MIN, 0}, {0, MAX}};
        for (int[] w : wrong) {
            Due.is("3 wrong " + w[0] + " " + w[1], x.ofDead(w[0], w[1]), Due.BEYOND);
        }
        picks();
    }

    private static void picks() {
        GhostTable x = new GhostTable();
        x.dead(0, 0, 31);
        x.dish(0, 1, 50);
        x.dish(10, 1, 60);
        x.dish(20, 1, 60);
        x.dish(30, 1, 3);
        x.dish(30, 1, 0);
        Due.is("3 none on a shrine", x.ofDead(0, 8), -1);
        x.serve(0, 1);
        Due.is("3 the only one", x.ofDead(0, 8), 0);
        x.serve(2, 1);
        Due.is("3 the hotter", x.ofDead(0, 8), 2);
        x.serve(1, 1);
        Due.is("3 as hot, the least number", x.ofDead(0, 8), 1);
        x.serve(3, 1);
        Due.is("3 what it likes", x.ofDead(0, 8), 3);
        x.serve(3, 2);
        x.serve(4, 1);
        Due.is("3 not what has no heat", x.ofDead(0, 8), 1);
        x.cook(4, 2, 1);
        Due.is("3 liked, if cooler", x.ofDead(0, 8), 4);
        x.cook(1, 1, 0);
        x.serve(4, -1);
        Due.is("3 parts don't matter", x.ofDead(0, 8), 1);
    }

    private static void promises4to6() {
        GhostTable x = new GhostTable();
        x.dead(12, 23, 42);
        int[] was = {3, 4, 2, 0};
        int[] most = {9, 5, 2, 9999};
        for (int what = 3; what <= 6; what++) {
            Due.is("4 was", x.change(0, what, most[what - 3]), was[what - 3]);
            Due.is("4 most", x.ofDead(0, what), most[what - 3]);
            Due.is("4 above", x.change(0, what, most[what - 3] + 1), Due.BEYOND);
            Due.is("4 below", x.change(0, what, -1), Due.BEYOND);
            Due.is("4 stays", x.ofDead(0, what), most[what - 3]);
            Due.is("4 to 0", x.change(0, what, 0), most[what - 3]);
            Due.is("4 is 0", x.ofDead(0, what), 0);
        }
        for (int what : new int[] {-1, 0, 1, 2, 7, 8, MIN, MAX}) {
            Due.is("4 what " + what, x.change(0, what, 0), Due.BEYOND);
        }
        Due.is("4 dead", x.change(1, 3, 0), Due.BEYOND);
        Due.is("4 dead", x.change(-1, 3, 0), Due.BEYOND);

        Due.is("5 was", x.become(0, 69), 1);
        Due.is("5 kind", x.ofDead(0, 0), 6);
        Due.is("5 m", x.ofDead(0, 1), 9);
        Due.is("5 km", x.become(0, 70), Due.BEYOND);
        Due.is("5 km", x.become(0, -1), Due.BEYOND);
        Due.is("5 dead", x.become(1, 0), Due.BEYOND);
        Due.is("5 was", x.become(0, 0), 6);

        int[][] under = {{0}, {0, 1}, {0, 2}, {0, 3}, {0, 1, 4}, {0, 2, 5}, {0, 3, 6}};
        for (int own = 0; own < 7; own++) {
            x.become(0, 10 * own + 7);
            for (int kind = 0; kind < 7; kind++) {
                boolean is = false;
                for (int u : under[own]) {
                    is = is || u == kind;
                }
                Due.is("6 " + own + " as " + kind, x.as(0, kind), is ? 7 : Due.KIND);
            }
        }
        Due.is("6 kind", x.as(0, 7), Due.BEYOND);
        Due.is("6 kind", x.as(0, -1), Due.BEYOND);
        Due.is("6 dead", x.as(1, 0), Due.BEYOND);
    }

    private static void promise7() {
        // With m 3 and RANK 5: what each KIND takes of a DISH it likes, hot; of another, hot; of another, of 49.
        int[][] due = {{4, 4, 4}, {9, 9, 9}, {14, 7, 7}, {2, 2, 2}, {18, 18, 18}, {14, 0, 0}, {2, 2, 5}};
        for (int kind = 0; kind < 7; kind++) {
            GhostTable x = new GhostTable();
            x.dead(10 * kind + 3, 5, 10);
            x.dish(10, 0, 90);
            x.dish(20, 0, 50);
            x.dish(20, 0, 49);
            x.dish(10, 0, 1);
            for (int dish = 0; dish < 3; dish++) {
                Due.is("7 kind " + kind + " dish " + dish, x.takes(0, dish), due[kind][dish]);
            }
            Due.is("7 not more than heat", x.takes(0, 3), 1);
            Due.text(x, 0, "k+3");
            for (int dish = 0; dish < 3; dish++) {
                Due.is("7 with eats, once", x.takes(0, dish), due[kind][dish] + kind + 3);
            }
            Due.text(x, 0, "0-20");
            Due.is("7 not below 0", x.takes(0, 1), 0);
            Due.text(x, 0, "s*10-r+(h=90)");
            Due.is("7 names", x.takes(0, 0), due[kind][0] + 10 - 5 + 1);
        }
        GhostTable x = new GhostTable();
        x.dead(0, 0, 0);
        x.dish(0, 0, 9);
        Due.is("7 dish", x.takes(0, 1), Due.BEYOND);
        Due.is("7 dish", x.takes(0, -1), Due.BEYOND);
        Due.is("7 dead", x.takes(1, 0), Due.BEYOND);
        Due.is("7 dead", x.takes(-1, 0), Due.BEYOND);
    }

    private static void promises8to11() {
        GhostTable x = new GhostTable();
        Due.is("8 least", x.dish(0, 0, 0), 0);
        Due.is("8 most", x.dish(53, 20, 99), 1);
        int[] most = {5, 20, 99, 3, -1};
        for (int what = 0; what < 5; what++) {
            Due.is("9 least", x.ofDish(0, what), what == 4 ? -1 : 0);
            Due.is("9 most", x.ofDish(1, what), most[what]);
        }
        for (int sh : new int[] {-1, 4, 9, 14, 54, 59, 60, MIN, MAX}) {
            Due.is("8 sh " + sh, x.dish(sh, 0, 0), Due.BEYOND);
        }
        Due.is("8 parts", x.dish(0, 21, 0), Due.BEYOND);
        Due.is("8 parts", x.dish(0, -1, 0), Due.BEYOND);
        Due.is("8 heat", x.dish(0, 0, 100), Due.BEYOND);
        Due.is("8 heat", x.dish(0, 0, -1), Due.BEYOND);
        for (int i = 2; i < 8; i++) {
            Due.is("8 number", x.dish(10, 1, 1), i);
        }
        Due.is("8 beyond ahead of full", x.dish(0, 21, 0), Due.BEYOND);
        Due.is("8 full", x.dish(0, 0, 0), Due.FULL);
        Due.is("9 what", x.ofDish(0, 5), Due.BEYOND);
        Due.is("9 what", x.ofDish(0, -1), Due.BEYOND);
        Due.is("9 dish", x.ofDish(8, 0), Due.BEYOND);
        Due.is("9 dish", x.ofDish(-1, 0), Due.BEYOND);

        Due.is("10 parts", x.cook(1, 1, 0), 20);
        Due.is("10 parts", x.cook(1, 1, 20), 0);
        Due.is("10 heat", x.cook(1, 2, 0), 99);
        Due.is("10 heat", x.cook(1, 2, 99), 0);
        int[][] wrong = {{1, 0, 0}, {1, 3, 0}, {1, 4, 0}, {1, -1, 0}, {1, 1, 21}, {1, 1, -1}, {1, 2, 100},
            {1, 2, -1}, {8, 1, 0}, {-1, 1, 0}};
        for (int[] w : wrong) {
            Due.is("10 wrong", x.cook(w[0], w[1], w[2]), Due.BEYOND);
        }
        Due.is("10 stays", x.ofDish(1, 1), 20);
        Due.is("10 stays", x.ofDish(1, 2), 99);

        Due.is("11 was in the kitchen", x.serve(0, 2), -1);
        Due.is("11 stands", x.ofDish(0, 4), 2);
        Due.is("11 was", x.serve(0, -1), 2);
        Due.is("11 shrine", x.serve(0, 3), Due.BEYOND);
        Due.is("11 shrine", x.serve(0, -2), Due.BEYOND);
        Due.is("11 dish", x.serve(8, 0), Due.BEYOND);
        Due.is("11 stays", x.ofDish(0, 4), -1);
    }

    private static void promises12to14() {
        GhostTable x = new GhostTable();
        x.dish(1, 9, 99);
        x.dish(1, 9, 0);
        x.dish(2, 0, 0);
        x.bells(7);
        x.serve(0, 1);
        // The heat is 92 still: 9 - 9 / 2 is 5.
        Due.is("12 hot fills half", x.eat(0), 5);
        Due.is("13 less", x.hunger(1), 2);
        Due.is("12 parts", x.ofDish(0, 1), 0);
        Due.is("12 in the kitchen", x.ofDish(0, 4), -1);
        Due.is("12 heat stays", x.ofDish(0, 2), 92);
        Due.is("12 not below 0", x.eat(1), 2);
        Due.is("13 none", x.hunger(1), 0);
        Due.is("13 others", x.hunger(0), 7);
        Due.is("12 no parts", x.eat(2), Due.STATE);
        Due.is("12 dish", x.eat(3), Due.BEYOND);
        Due.is("12 dish", x.eat(-1), Due.BEYOND);
        Due.is("13 house", x.hunger(4), Due.BEYOND);
        Due.is("13 house", x.hunger(-1), Due.BEYOND);
        x.cook(0, 1, 20);
        x.cook(0, 2, 50);
        x.bells(30);
        Due.is("12 at 20 parts, not hot", x.eat(0), 20);
        Due.text(x, 1, "p+h+u");
        x.cook(2, 1, 1);
        x.cook(2, 2, 2);
        Due.is("12 by a text", x.eat(2), 37);

        GhostTable y = new GhostTable();
        y.dead(0, 10, 0);
        y.dead(0, 0, 0);
        y.dead(0, 10, 0);
        y.dead(0, 30, 0);
        y.dish(11, 1, 0);
        y.dish(2, 1, 0);
        y.bells(5);
        Due.is("14 how many", y.marry(3, 1), 2);
        Due.is("14 dead", y.ofDead(0, 2), 3);
        Due.is("14 others", y.ofDead(1, 2), 0);
        Due.is("14 dish", y.ofDish(0, 3), 3);
        Due.is("14 other dish", y.ofDish(1, 3), 2);
        Due.is("14 hunger", y.hunger(3), 10);
        Due.is("14 hunger", y.hunger(1), 0);
        Due.is("14 none left", y.marry(3, 1), 0);
        Due.is("14 twice", y.marry(2, 2), Due.BEYOND);
        Due.is("14 house", y.marry(4, 1), Due.BEYOND);
        Due.is("14 house", y.marry(1, -1), Due.BEYOND);
        hungerIsBound();
    }

    private static void hungerIsBound() {
        GhostTable x = new GhostTable();
        for (int i = 0; i < 83; i++) {
            x.bells(120);
        }
        Due.is("13 after 9960 bells", x.hunger(0), 9960);
        x.marry(0, 1);
        Due.is("14 at most 9999", x.hunger(0), 9999);
        x.bells(10);
        Due.is("13 at most 9999", x.hunger(0), 9999);
        Due.is("13 the other", x.hunger(1), 10);
    }

    private static void promises15and16() {
        GhostTable x = new GhostTable();
        for (int n : new int[] {0, 9, -1, MIN, MAX}) {
            Due.is("15 n " + n, x.feed(0, n), Due.BEYOND);
        }
        for (int i = 1; i <= 6; i++) {
            Due.is("15 how many", x.feed(0x3131313131313131L, 8), 8 * i);
        }
        Due.is("15 full", x.feed(0, 3), Due.FULL);
        Due.is("15 beyond ahead of full", x.feed(0, 9), Due.BEYOND);
        Due.is("15 to the brim", x.feed(0, 2), 50);
        Due.is("15 full", x.feed(0, 1), Due.FULL);
        Due.is("16 use", x.text(2), Due.BEYOND);
        Due.is("16 use", x.text(-1), Due.BEYOND);
        Due.is("16 tape stays", x.count(6), 50);
        Due.is("16 fifth digit", x.text(0), -14);
        Due.is("16 tape is empty", x.count(6), 0);
        Due.is("15 lowest first", x.feed(0x7700000000352B68L, 3), 3);
        Due.is("16 sound", x.text(0), 1);
        Due.is("17 lowest first", x.law(0, 4, 0, 0, 0), 9);
        Due.is("16 empty", x.text(0), -10);
        Due.is("17 the one ahead stays", x.law(0, 4, 0, 0, 0), 9);
        faults();
        Due.is("16 no error is told", x.told(3) + x.told(2) + x.told(5), 0);
        Due.is("15 told", x.told(1), 5 + 1 + 2);
        Due.is("15 told", x.told(4), 2);
    }

    private static void faults() {
        // A text of USE 0, and its FAULT, -1 if it is sound.
        String[] texts = {"h", "hh", "h1", "1h", "9999", "10000", "h+", "+h", "(h", "h)", "()", "h<1<2", "h<1&h>2=3",
            "(h<1)<2", "h<1+2>3", "!!!!!h", "!!!!!!h", "(((((h)))))", "((((((h))))))", "!(!(!h))", "!(!(!!h))&!h",
            "!(!(!(h", "p", "u", "h h", "h+-1", "!", "!h!", "h!", "h|k&s=r+1-2*3/4%5", "h||k", "0000", "00000", "h==1",
            "(1)(2)", "h+(1", "h\u00e9", "\u0000", "!!!!!1+!!!!!2", "(!!!!1)+((((!2))))", "(!!!!(1))", "%1", "1%", ")"};
        int[] faults = {-1, 1, 1, 1, -1, 4, 2, 0, 2, 1, 1, 3, 7,
            -1, 5, -1, 5, -1, 5, -1, 5,
            5, 0, 0, 1, 2, 1, 2, 1, -1, 2, -1, 4, 2,
            3, 4, 1, 0, -1, -1, 5, 0, 2, 0};
        Due.is("as many faults", faults.length, texts.length);
        for (int i = 0; i < texts.length; i++) {
            GhostTable x = new GhostTable();
            Due.is("16 " + texts[i], Due.text(x, 0, texts[i]), faults[i] < 0 ? 1 : -10 - faults[i]);
            Due.is("16 nothing stays open behind " + texts[i], Due.text(x, 0, "((((!h*2))))"), 1);
            Due.is("16 nothing is left of " + texts[i], x.law(0, 0, 0, 0, 0), 2);
        }
    }

    private static void promise17() {
        GhostTable x = new GhostTable();
        Due.is("17 no eats", x.law(0, 9, 9, 9, 9), 0);
        Due.is("17 no fills", x.law(1, 9, 50, 9, 9), 9);
        Due.is("17 no fills, hot", x.law(1, 9, 51, 9, 9), 5);
        Due.is("17 no fills, below", x.law(1, -5, 0, 0, 0), 0);
        Due.is("17 no fills, above", x.law(1, 1000, 0, 0, 0), 999);
        Due.is("17 no fills, least", x.law(1, MIN, 51, 0, 0), 0);
        Due.is("17 use", x.law(2, 0, 0, 0, 0), Due.BEYOND);
        Due.is("17 use", x.law(-1, 0, 0, 0, 0), Due.BEYOND);
        String[] texts = {"h-s-r-k", "20-h/s*r", "20-h%s", "h/0+h%0", "!h+!s*3", "!!k", "h<s", "h>s", "h=s", "h&s", "h|s",
            "0|0", "1+2<4", "2*3+4", "2+3*4", "(2+3)*2", "1|0&0", "h/s/r", "0-h/s", "0-7%4", "(0-7)%4", "(0-7)/2",
            "9999*9999*9999/9999%20", "5&3", "5|0", "h", "3=3=0", "0002+10"};
        // With h 17, s 5, r 2, k 1.
        int[] due = {9, 14, 18, 0, 0, 1, 0, 1, 0, 1, 1,
            0, 1, 10, 14, 10, 1, 1, -3, -3, -3, -3,
            9999 * 9999 * 9999 / 9999 % 20, 1, 1, 17, MIN, 12};
        for (int i = 0; i < texts.length; i++) {
            GhostTable y = new GhostTable();
            int answer = Due.text(y, 0, texts[i]);
            if (due[i] == MIN) {
                Due.is("17 refused " + texts[i], answer, -13);
            } else {
                Due.is("17 " + texts[i], y.law(0, 17, 5, 2, 1), due[i]);
            }
        }
        Due.text(x, 0, "h/s");
        Due.is("17 least by -1 wraps", x.law(0, MIN, -1, 0, 0), -20);
        Due.text(x, 0, "h%s");
        Due.is("17 least by -1 leaves 0", x.law(0, MIN, -1, 0, 0), 0);
        Due.text(x, 0, "h*s");
        Due.is("17 eats at most", x.law(0, 21, 1, 0, 0), 20);
        Due.is("17 eats at most", x.law(0, 20, 1, 0, 0), 20);
        Due.is("17 eats at least", x.law(0, 21, -1, 0, 0), -20);
        Due.is("17 eats at least", x.law(0, 20, -1, 0, 0), -20);
        Due.text(x, 0, "h+s");
        Due.is("17 wraps", x.law(0, MAX, 1, 0, 0), -20);
        Due.text(x, 1, "p*100+h*10+u");
        Due.is("17 names of fills", x.law(1, 1, 2, 3, 9), 123);
        Due.text(x, 1, "p-h");
        Due.is("17 fills not below 0", x.law(1, 1, 2, 3, 9), 0);
        Due.is("17 fills at most", x.law(1, 2000, 2, 3, 9), 999);
        Due.is("17 eats is another", x.law(0, 1, 2, 0, 0), 3);
    }

    private static void promise18() {
        GhostTable x = new GhostTable();
        x.dead(10, 1, 0);
        x.dead(10, 3, 0);
        x.dead(10, 1, 0);
        x.dead(0, 9, 1);
        x.dish(0, 1, 16);
        x.dish(0, 1, 1);
        x.serve(0, 0);
        // RANK 3 takes 7, then number 0 takes 5, then number 2 the 4 that are left.
        Due.is("18 anger", x.bells(1), 1);
        Due.is("18 rank first", x.ofDead(1, 7), 7);
        Due.is("18 then by number", x.ofDead(0, 7), 5);
        Due.is("18 the rest", x.ofDead(2, 7), 4);
        Due.is("18 nothing there", x.ofDead(3, 6), 1);
        Due.is("18 heat not below 0", x.ofDish(0, 2), 0);
        Due.is("18 the kitchen cools by 1", x.ofDish(1, 2), 0);
        Due.is("18 anger grows", x.bells(2), 2 * 3 + 3);
        x.cook(0, 2, 20);
        Due.is("18 who eats is calm", x.bells(1), 4);
        Due.is("18 a shrine cools by 2", x.ofDish(0, 2), 20 - 17 - 2);
        Due.is("18 bell", x.count(0), 4);
        Due.is("18 hunger", x.hunger(3), 4);
        for (int n : new int[] {0, 121, -1, MIN, MAX}) {
            Due.is("18 n " + n, x.bells(n), Due.BEYOND);
        }
        x.change(3, 6, 9999);
        x.bells(1);
        Due.is("18 anger at most", x.ofDead(3, 6), 9999);
        for (int i = 0; i < 83; i++) {
            x.bells(120);
        }
        Due.is("18 at 9965", x.count(0), 9965);
        Due.is("18 state", x.bells(35), Due.STATE);
        Due.is("18 beyond ahead of state", x.bells(121), Due.BEYOND);
        Due.holds("18 to the last", x.bells(34) > 0);
        Due.is("18 state", x.bells(1), Due.STATE);
        Due.is("19 state", x.loose(1), Due.STATE);
        Due.is("20 beyond the last bell", x.then(120, 3, 6), 9999);
        Due.is("39 bell", x.count(0), 9999);
        ateIsBound();
    }

    private static void ateIsBound() {
        GhostTable x = new GhostTable();
        x.dead(40, 9, 0);
        Due.text(x, 0, "20");
        for (int i = 0; i < 8; i++) {
            x.dish(0, 1, 99);
            x.serve(i, 0);
        }
        // 46 a bell at most; some 16 bells a round.
        int rounds = 0;
        while (x.count(4) < 99999 && rounds < 400) {
            for (int i = 0; i < 8; i++) {
                x.cook(i, 2, 99);
            }
            x.bells(16);
            rounds++;
        }
        Due.is("18 ate at most", x.ofDead(0, 7), 99999);
    }

    private static void promise19() {
        // Of seed 7, by the document's own rule, written out a second time.
        GhostTable x = new GhostTable();
        x.dish(0, 20, 0);
        x.dish(0, 20, 0);
        x.dish(0, 20, 0);
        x.serve(0, 2);
        x.serve(2, 0);
        x.seed(7);
        int z = 7;
        int[] parts = {20, 20, 20};
        for (int bell = 0; bell < 40; bell++) {
            for (int dish = 0; dish < 3; dish += 2) {
                z = z * 1103515245 + 12345;
                if ((z >>> 8) % 10 == 0) {
                    z = z * 1103515245 + 12345;
                    parts[dish] = Math.max(0, parts[dish] - (z >>> 8) % 3 - 1);
                }
            }
        }
        Due.is("19 anger", x.loose(40), 0);
        Due.is("19 z", x.count(9), z);
        for (int dish = 0; dish < 3; dish++) {
            Due.is("19 parts", x.ofDish(dish, 1), parts[dish]);
        }
        Due.is("19 bell", x.count(0), 40);
        Due.is("19 hunger", x.hunger(2), 40);
        Due.is("19 n", x.loose(0), Due.BEYOND);
        Due.is("19 n", x.loose(121), Due.BEYOND);
        x.loose(120);
        x.loose(120);
        Due.is("19 parts not below 0", x.ofDish(0, 1), 0);
        x.dead(0, 0, 0);
        Due.is("19 anger likewise", x.loose(2), 2);
    }

    private static void promises20to22() {
        GhostTable x = new GhostTable();
        x.dead(12, 13, 10);
        x.dead(69, 0, 12);
        x.dish(10, 1, 20);
        x.serve(0, 0);
        // Number 0 takes 7, and 2 go: 20, 11, 2, 0, and has anger from the fourth bell on.
        int[] heats = {20, 11, 2, 0, 0};
        int[] angers = {0, 0, 0, 0, 1};
        int[] ate = {0, 7, 14, 16, 16};
        for (int n = 0; n < 5; n++) {
            Due.is("21 heat", x.thenHeat(n, 0), heats[n]);
            Due.is("20 anger", x.then(n, 0, 6), angers[n]);
            Due.is("20 ate", x.then(n, 0, 7), ate[n]);
            Due.is("20 picks", x.then(n, 0, 8), n < 3 ? 0 : -1);
            Due.is("22 all", x.angers(n), angers[n] + n);
        }
        int[] facts = {1, 2, 1, 3, 1, 0};
        for (int what = 0; what < 6; what++) {
            Due.is("20 fact", x.then(9, 0, what), facts[what]);
        }
        Due.is("20 changes nothing", x.count(0) + x.count(3) + x.count(4), 0);
        Due.is("22 most", x.angers(120), 117 + 120);
        int[][] wrong = {{-1, 0, 0}, {121, 0, 0}, {0, 2, 0}, {0, -1, 0}, {0, 0, -1}, {0, 0, 9}};
        for (int[] w : wrong) {
            Due.is("20 wrong", x.then(w[0], w[1], w[2]), Due.BEYOND);
        }
        x.become(0, 52);
        Due.is("21 a picky one likes its sort", x.thenHeat(1, 0), 20 - 12 - 2);
        Due.is("21 n", x.thenHeat(121, 0), Due.BEYOND);
        Due.is("21 n", x.thenHeat(-1, 0), Due.BEYOND);
        Due.is("21 dish", x.thenHeat(0, 1), Due.BEYOND);
        Due.is("22 n", x.angers(-1), Due.BEYOND);
        Due.is("22 n", x.angers(121), Due.BEYOND);
    }

    private static void promise23() {
        GhostTable x = new GhostTable();
        Due.is("23 no dishes", x.table(1, -1), 0);
        Due.is("23 no first", x.table(1, 0), Due.NONE);
        x.dead(0, 0, 2);
        x.dish(0, 0, 9);
        x.dish(0, 0, 99);
        // One bell: either does, and the first row that does has DISH 0 at 0 and DISH 1 at 2.
        Due.is("23 anger", x.table(1, -1), 0);
        Due.is("23 first row", x.table(1, 0), 0);
        Due.is("23 first row", x.table(1, 1), 2);
        Due.is("23 none", x.table(1, 2), Due.NONE);
        x.dead(0, 0, 1);
        Due.is("23 both", x.table(1, 0), 1);
        Due.is("23 both", x.table(1, 1), 2);
        Due.is("23 changes nothing", x.ofDish(0, 4), -1);
        int[][] wrong = {{0, 0}, {13, 0}, {1, -2}, {1, 5}, {MIN, 0}, {1, MAX}};
        for (int[] w : wrong) {
            Due.is("23 wrong", x.table(w[0], w[1]), Due.BEYOND);
        }
        Due.is("23 beyond ahead of none", x.table(13, 4), Due.BEYOND);
        otherDishesStay();
        theKitchenIsBest();
    }

    private static void otherDishesStay() {
        GhostTable x = new GhostTable();
        x.dead(0, 0, 0);
        for (int i = 0; i < 6; i++) {
            x.dish(0, 0, 0);
        }
        x.cook(5, 2, 99);
        x.serve(5, 0);
        Due.is("23 others stay as they are", x.table(12, -1), 0);
        for (int i = 0; i < 5; i++) {
            Due.is("23 first row", x.table(12, i), 0);
        }
    }

    /** At each shrine, the dead eat of a dish only if the king has cooled it; of DISH 0, which he likes, he rather eats. */
    private static void theKitchenIsBest() {
        GhostTable x = new GhostTable();
        Due.text(x, 0, "(k=0)*(h>50)*(0-20)");
        x.dish(10, 0, 99);
        for (int shrine = 0; shrine < 3; shrine++) {
            x.dead(40, 9, 10 + shrine);
            x.dead(0, 0, shrine);
            x.dish(0, 0, 70);
        }
        Due.is("23 anger", x.table(1, -1), 0);
        Due.is("23 kitchen", x.table(1, 0), 3);
        for (int i = 1; i <= 3; i++) {
            Due.is("23 one each", x.table(1, i), i - 1);
        }
        Due.is("23 none", x.table(1, 4), Due.NONE);
        // It stands where it does harm, and is not moved by asking.
        x.serve(0, 2);
        Due.is("23 wherever it stood", x.table(1, 0), 3);
        Due.is("11 stays", x.ofDish(0, 4), 2);
    }

    private static void promise24() {
        GhostTable x = new GhostTable();
        Due.is("24 no dead", x.forget(1, 0), Due.NONE);
        Due.is("24 beyond ahead of none", x.forget(121, 0), Due.BEYOND);
        x.dead(0, 0, 0);
        Due.is("24 the only one", x.forget(5, 0), 0);
        Due.is("24 no others", x.forget(5, 1), 0);
        x.dead(40, 9, 0);
        x.dead(0, 0, 1);
        x.dish(0, 0, 26);
        x.serve(0, 0);
        Due.is("24 of several the least number", x.forget(1, 0), 0);
        x.dead(0, 0, 0);
        // Without the king, numbers 0 and 3 eat.
        Due.is("24 whom", x.forget(1, 0), 1);
        Due.is("24 anger", x.forget(1, 1), 1);
        x.change(0, 6, 4);
        x.change(2, 6, 4);
        Due.is("24 now, the least number", x.forget(0, 0), 0);
        Due.is("24 now", x.forget(0, 1), 4);
        Due.is("24 n", x.forget(-1, 0), Due.BEYOND);
        Due.is("24 what", x.forget(0, 2), Due.BEYOND);
        Due.is("24 what", x.forget(0, -1), Due.BEYOND);
        Due.holds("24 most", x.forget(120, 1) > 0);
        Due.is("24 nobody is gone", x.angers(0), 8);
    }

    private static void promise25() {
        GhostTable x = new GhostTable();
        x.dead(0, 0, 0);
        x.dish(0, 0, 50);
        Due.is("25 in the kitchen", x.needs(0, 0, 1), Due.NONE);
        x.serve(0, 0);
        Due.is("25 one bell", x.needs(0, 0, 1), 1);
        Due.is("25 two bells", x.needs(0, 0, 2), 7);
        Due.is("25 17 bells", x.needs(0, 0, 17), 97);
        Due.is("25 18 bells", x.needs(0, 0, 18), Due.NONE);
        x.become(0, 11);
        x.change(0, 3, 3);
        Due.is("25 12 bells", x.needs(0, 0, 12), Due.NONE);
        Due.is("25 11 bells", x.needs(0, 0, 11), 91);
        Due.text(x, 0, "5*(h=99)-10");
        Due.is("25 the greatest heat", x.needs(0, 0, 1), 99);
        Due.text(x, 0, "0");
        x.become(0, 0);
        x.change(0, 3, 0);
        x.dish(0, 0, 99);
        x.serve(1, 0);
        Due.is("25 of any dish", x.needs(0, 0, 9), 0);
        Due.is("25 heat stays", x.ofDish(0, 2), 50);
        x.dead(40, 9, 0);
        x.serve(1, 1);
        Due.is("25 behind a king", x.needs(0, 0, 1), 27);
        int[][] wrong = {{2, 0, 1}, {-1, 0, 1}, {0, 2, 1}, {0, -1, 1}, {0, 0, 0}, {0, 0, 31}, {0, 0, -1}};
        for (int[] w : wrong) {
            Due.is("25 wrong", x.needs(w[0], w[1], w[2]), Due.BEYOND);
        }
        Due.is("25 30 bells", x.needs(0, 0, 30), Due.NONE);
        // The plain dead eat of 60 and above alone; a bell with both of them takes 4, 4 and 2 of it.
        Due.text(x, 0, "(h<60)*(0-20)");
        Due.is("25 hot enough", x.needs(1, 0, 1), 1);
        x.become(1, 0);
        Due.is("25 hot enough", x.needs(1, 0, 1), 60);
        Due.is("25 hot enough", x.needs(1, 0, 2), 70);
    }

    private static void promise26() {
        GhostTable x = new GhostTable();
        Due.is("26 nobody", x.first(120), Due.NONE);
        x.dead(0, 0, 0);
        x.dead(0, 9, 0);
        Due.is("26 2 is not above 2", x.first(2), Due.NONE);
        Due.is("26 of several the least", x.first(3), 0);
        x.change(1, 6, 1);
        Due.is("26 first", x.first(2), 1);
        Due.is("26 not yet", x.first(1), Due.NONE);
        x.change(0, 6, 3);
        Due.is("26 now", x.first(0), 0);
        x.change(1, 6, 9);
        x.change(0, 6, 2);
        Due.is("26 now", x.first(120), 1);
        Due.is("26 n", x.first(-1), Due.BEYOND);
        Due.is("26 n", x.first(121), Due.BEYOND);
    }

    private static void promise27() {
        GhostTable x = new GhostTable();
        x.dead(0, 2, 0);
        x.dead(0, 5, 0);
        x.dead(0, 9, 1);
        x.dead(0, 2, 0);
        x.dead(0, 0, 0);
        int[] even = {4, 4, 17, 4, 4};
        int[] ranks = {3, 7, 17, 3, 1};
        int[] order8 = {3, 3, 3, 2, 0};
        for (int i = 0; i < 5; i++) {
            Due.is("27 even " + i, x.share(i, 17, 0), even[i]);
            Due.is("27 ranks " + i, x.share(i, 17, 1), ranks[i]);
            Due.is("27 order " + i, x.share(i, 8, 2), order8[i]);
        }
        Due.is("27 one part", x.share(1, 1, 2), 1);
        Due.is("27 one part", x.share(0, 1, 2), 0);
        Due.is("27 most", x.share(2, 99, 1), 99);
        int[][] wrong = {{5, 1, 0}, {-1, 1, 0}, {0, 0, 0}, {0, 100, 0}, {0, -1, 0}, {0, 1, 3}, {0, 1, -1}};
        for (int[] w : wrong) {
            Due.is("27 wrong", x.share(w[0], w[1], w[2]), Due.BEYOND);
        }
    }

    private static void promise28() {
        GhostTable x = new GhostTable();
        Due.is("28 was", x.seed(Due.BEYOND), 1);
        Due.is("28 any number", x.seed(MIN), Due.BEYOND);
        Due.is("28 any number", x.seed(MAX), MIN);
        Due.is("39 z", x.count(9), MAX);
        Due.is("40 no error", x.told(1), 0);
    }

    private static void promises29and30() {
        GhostTable x = new GhostTable();
        x.dead(0, 0, 0);
        x.dead(0, 0, 0);
        x.dead(0, 0, 0);
        x.dead(0, 0, 0);
        // Number 3, m 5, x 7, by hand: the answer, then THE TRACE, for comes, sniffs, eats, tells of each KIND.
        int[][][] due = {
            {{10, 10}, {20, 11, 10}, {2, 12}, {20 ^ 2, 13, 11, 10, 12}},
            {{10, 10}, {20 + 4, 20, 11, 10, 12}, {2, 12}, {24 ^ 2, 13, 20, 11, 10, 12, 12}},
            {{30, 30, 10}, {60, 11, 30, 10}, {2, 12}, {60 ^ 2, 13, 11, 30, 10, 12}},
            {{10, 10}, {20, 11, 10}, {-2, 40, 12}, {20 ^ -2, 13, 11, 10, 40, 12}},
            {{10, 10}, {22 + 4, 50, 20, 11, 10, 12}, {2, 12}, {26 ^ 2, 13, 50, 20, 11, 10, 12, 12}},
            {{30, 30, 10}, {60, 11, 30, 10}, {2, 12}, {(60 ^ 2) - 15, 60, 13, 11, 30, 10, 12, 30, 10}},
            {{10, 10}, {20, 11, 10}, {-2 ^ 3, 70, 40, 12},
                {20 - (20 ^ (-2 ^ 3)), 71, 11, 10, 13, 11, 10, 70, 40, 12}},
        };
        for (int kind = 0; kind < 7; kind++) {
            x.become(3, 10 * kind + 5);
            for (int act = 0; act < 4; act++) {
                int[] row = due[kind][act];
                Due.is("29 kind " + kind + " act " + act, x.voice(3, act, 7), row[0]);
                Due.is("39 bodies", x.count(8), row.length - 1);
                for (int i = 1; i < row.length; i++) {
                    Due.is("30 kind " + kind + " act " + act + " at " + (i - 1), x.trace(i - 1), row[i]);
                }
                Due.is("30 behind the last", x.trace(row.length - 1), Due.NONE);
            }
        }
        Due.is("30 below", x.trace(-1), Due.NONE);
        Due.is("30 far", x.trace(MAX), Due.NONE);
        int[][] wrong = {{4, 0}, {-1, 0}, {0, 4}, {0, -1}};
        for (int[] w : wrong) {
            Due.is("29 wrong", x.voice(w[0], w[1], 0), Due.BEYOND);
        }
        Due.is("30 stays", x.count(8), 9);
        Due.is("29 goes round", x.voice(3, 0, MAX), MAX + 3);
        x.become(0, 0);
        Due.is("29 any number", x.voice(0, 0, Due.KIND), Due.KIND);
        Due.is("40 no error", x.told(5), 0);
    }

    private static void promises31and32() {
        GhostTable x = new GhostTable();
        Due.is("31 sheet", x.sheet(4, 8, 1), Due.BEYOND);
        Due.is("31 sheet", x.sheet(-1, 8, 1), Due.BEYOND);
        Due.is("31 sheet ahead of state", x.sheet(4, 8, -1), Due.BEYOND);
        Due.is("31 bits ahead of state", x.sheet(0, 7, -1), Due.BEYOND);
        for (int bits : new int[] {-8, 1, 7, 9, 24, 31, 33, 64, MIN, MAX}) {
            Due.is("31 bits " + bits, x.sheet(0, bits, 1), Due.BEYOND);
        }
        Due.is("31 below 0", x.sheet(0, 8, -1), Due.STATE);
        Due.is("31 below 0", x.sheet(0, 32, MIN), Due.STATE);
        Due.is("31 too many", x.sheet(0, 8, 41), Due.BEYOND);
        Due.is("31 too many", x.sheet(0, 8, MAX), Due.BEYOND);
        Due.is("32 missing still", x.put(0, 0, 0), Due.NONE);
        Due.is("31 missing, n doesn't matter", x.sheet(0, 0, -5), 1);
        Due.is("31 missing, n doesn't matter", x.sheet(0, 0, 99), 1);
        Due.is("32 missing", x.put(0, 0, 0), Due.NONE);
        Due.is("31 none", x.sheet(0, 8, 0), 1);
        Due.is("32 none there", x.put(0, 0, 0), Due.BEYOND);
        Due.is("31 most", x.sheet(3, 32, 40), 1);
        Due.is("32 last", x.put(3, 39, 1), 1);
        Due.is("32 behind", x.put(3, 40, 1), Due.BEYOND);
        Due.is("32 below", x.put(3, -1, 1), Due.BEYOND);
        Due.is("32 sheet", x.put(4, 0, 1), Due.BEYOND);
        Due.is("32 sheet", x.put(-1, 0, 1), Due.BEYOND);
        Due.is("31 missing again", x.sheet(3, 0, 0), 1);
        Due.is("32 missing again", x.put(3, 0, 0), Due.NONE);
        lowestBits();
    }

    /** What a SHEET holds is seen by dishes(): of each number put, whether a DISH comes of it, and its HEAT. */
    private static void lowestBits() {
        int[][] cases = {{8, 256 + 99, 99}, {8, 128, -1}, {8, 255, -1}, {8, MIN, 0}, {8, -256 + 7, 7},
            {16, 65536 + 98, 98}, {16, 256 + 99, -1}, {16, 32768, -1}, {32, 65536, -1}, {32, 99, 99}};
        for (int[] c : cases) {
            GhostTable x = new GhostTable();
            x.sheet(1, c[0], 3);
            Due.is("32 put", x.put(1, 2, c[1]), 1);
            Due.is("32 bits " + c[0] + " of " + c[1], x.dishes(1), c[2] < 0 ? 0 : 1);
            Due.is("32 heat", x.ofDish(0, 2), c[2] < 0 ? Due.BEYOND : c[2]);
            x.sheet(1, c[0], 3);
            x.dishes(1);
            Due.is("31 all 0", x.ofDish(c[2] < 0 ? 0 : 1, 2), 0);
        }
    }

    private static void promise33() {
        GhostTable x = new GhostTable();
        x.sheet(0, 8, 6);
        x.sheet(1, 8, 3);
        x.sheet(2, 16, 3);
        int[][] wrong = {{4, 0, 0, 0, 0, Due.BEYOND}, {0, 0, -1, 0, 0, Due.BEYOND}, {4, 0, 3, 0, 0, Due.BEYOND},
            {0, 0, 3, 0, 0, Due.NONE}, {3, 0, 0, 0, 0, Due.NONE}, {3, 0, 2, 0, -1, Due.NONE},
            {0, 0, 2, 0, 0, Due.KIND}, {0, -1, 2, 0, -1, Due.KIND}, {0, -1, 1, 0, 1, Due.BEYOND},
            {0, 0, 1, -1, 1, Due.BEYOND}, {0, 0, 1, 0, -1, Due.BEYOND}, {0, 0, 1, 0, 4, Due.BEYOND},
            {0, 4, 1, 0, 3, Due.BEYOND}, {0, 0, 1, 1, 3, Due.BEYOND}, {0, 7, 1, 0, 0, Due.BEYOND},
            {0, 0, 1, 4, 0, Due.BEYOND}, {0, MAX, 1, 0, MAX, Due.BEYOND}, {0, 1, 1, 1, MAX, Due.BEYOND},
            {0, MIN, 1, MIN, MIN, Due.BEYOND}, {0, 6, 1, 3, 0, 0}, {0, 0, 1, 0, 0, 0}, {0, 3, 1, 0, 3, 3}};
        for (int[] w : wrong) {
            Due.is("33 " + w[0] + " " + w[1] + " " + w[2] + " " + w[3] + " " + w[4],
                x.move(w[0], w[1], w[2], w[3], w[4]), w[5]);
        }
        // (10, 2, 3) and zeros, moved upon itself by one up, and down, as they all were.
        x.put(0, 0, 10);
        x.put(0, 1, 2);
        x.put(0, 2, 3);
        Due.is("33 up", x.move(0, 0, 0, 1, 5), 5);
        x.put(0, 0, 20);
        x.dishes(0);
        sees(x, 0, new int[] {2, 10, 2});
        sees(x, 1, new int[] {0, 0, 0});
        Due.is("33 to another", x.move(0, 1, 1, 0, 3), 3);
        x.dishes(1);
        sees(x, 2, new int[] {1, 2, 3});
        Due.is("33 down", x.move(0, 1, 0, 0, 5), 5);
        x.dishes(0);
        sees(x, 3, new int[] {1, 2, 3});
    }

    private static void sees(GhostTable x, int dish, int[] due) {
        for (int what = 0; what < 3; what++) {
            Due.is("dish " + dish + " from a sheet, " + what, x.ofDish(dish, what), due[what]);
        }
    }

    private static void promise34() {
        GhostTable x = new GhostTable();
        Due.is("34 sheet", x.dishes(4), Due.BEYOND);
        Due.is("34 sheet", x.dishes(-1), Due.BEYOND);
        Due.is("34 missing", x.dishes(0), Due.NONE);
        x.sheet(0, 32, 2);
        Due.is("34 not whole", x.dishes(0), 0);
        x.sheet(0, 32, 11);
        x.put(0, 0, 53);
        x.put(0, 1, 20);
        x.put(0, 2, 99);
        x.put(0, 5, 100);
        Due.is("34 up to the refused", x.dishes(0), 1);
        Due.is("34 sort", x.ofDish(0, 0), 5);
        Due.is("34 house", x.ofDish(0, 3), 3);
        Due.is("34 kitchen", x.ofDish(0, 4), -1);
        x.put(0, 5, 98);
        Due.is("34 all but the one that isn't whole", x.dishes(0), 3);
        x.sheet(0, 8, 40);
        Due.is("34 up to full", x.dishes(0), 4);
        Due.is("34 full already", x.dishes(0), 0);
        Due.is("40 no error of full", x.told(4), 0);
        Due.is("40 no error of beyond but two", x.told(1), 2);
    }

    private static void promises35and36() {
        GhostTable x = new GhostTable();
        x.dead(12, 13, 10);
        x.dish(10, 5, 50);
        x.serve(0, 0);
        Due.text(x, 0, "1");
        Due.text(x, 1, "7");
        x.feed('h', 1);
        x.tell(3);
        x.seed(11);
        x.bells(2);
        x.voice(0, 0, 0);
        x.sheet(0, 8, 1);
        Due.is("35 first", x.image(), 1);
        int ate = x.ofDead(0, 7);
        x.become(0, 69);
        x.change(0, 3, 0);
        x.change(0, 4, 0);
        x.change(0, 5, 2);
        x.dead(0, 0, 0);
        x.dish(0, 0, 0);
        x.cook(0, 1, 1);
        x.cook(0, 2, 1);
        x.serve(0, 1);
        x.marry(2, 1);
        x.text(0);
        Due.text(x, 1, "8");
        Due.feed(x, "1+2");
        x.tell(4);
        x.seed(12);
        x.loose(30);
        x.voice(0, 3, 0);
        x.sheet(0, 0, 0);
        Due.is("36 bell", x.restore(), 2);
        int[] dead = {1, 2, 1, 3, 1, 0, 0, ate, 0};
        for (int what = 0; what < 9; what++) {
            Due.is("36 dead " + what, x.ofDead(0, what), dead[what]);
        }
        Due.is("36 dish", x.ofDish(0, 1), 5);
        Due.is("36 dish", x.ofDish(0, 2), 50 - 2 * 10);
        Due.is("36 dish", x.ofDish(0, 3), 0);
        Due.is("36 dish", x.ofDish(0, 4), 0);
        Due.is("36 hunger", x.hunger(2), 2);
        int[] counts = {2, 1, 1, 0, ate, 30, 1, 1, 9, 11};
        for (int what = 0; what < 10; what++) {
            Due.is("36 count " + what, x.count(what), counts[what]);
        }
        Due.is("36 eats", x.law(0, 9, 9, 9, 9), 1);
        Due.is("36 fills", x.law(1, 9, 9, 9, 9), 7);
        Due.is("36 sheets are not of it", x.put(0, 0, 0), Due.NONE);
        Due.is("36 tape is of it", x.text(0), 1);
        Due.is("36 tape is of it", x.law(0, 9, 0, 0, 0), 9);
        x.bells(5);
        Due.is("36 it stays", x.restore(), 2);
        Due.is("36 what is told is not of it", x.told(2), 1);
        x.bells(1);
        Due.is("35 in place of it", x.image(), 2);
        x.bells(1);
        Due.is("36 the later", x.restore(), 3);
        Due.is("35 how often", x.image(), 3);
        GhostTable y = new GhostTable();
        Due.is("36 none", y.restore(), Due.NONE);
        y.image();
        y.dead(0, 0, 0);
        Due.text(y, 0, "5");
        Due.is("36 of nothing", y.restore(), 0);
        Due.is("36 no dead", y.count(1), 0);
        Due.is("36 no text", y.law(0, 0, 0, 0, 0), 0);
        anewBehindAnImage();
    }

    /** Who and what comes behind restore() has nothing of who stood there ahead of it. */
    private static void anewBehindAnImage() {
        GhostTable x = new GhostTable();
        x.image();
        x.dead(29, 9, 20);
        x.dish(20, 9, 20);
        x.serve(0, 0);
        x.bells(3);
        Due.is("36 ate", x.ofDead(0, 7), 20);
        Due.is("36 anger", x.ofDead(0, 6), 2);
        Due.is("36 bell", x.restore(), 0);
        Due.is("36 hunger", x.hunger(0), 0);
        x.dead(5, 0, 0);
        x.dish(30, 9, 30);
        Due.is("2 no anger", x.ofDead(0, 6), 0);
        Due.is("2 ate nothing", x.ofDead(0, 7), 0);
        Due.is("8 in the kitchen", x.ofDish(0, 4), -1);
        Due.is("8 sort", x.ofDish(0, 0), 3);
        x.image();
        x.restore();
        Due.is("36 sort", x.ofDish(0, 0), 3);
    }

    private static void promises37and38() {
        GhostTable x = new GhostTable();
        x.dead(0, 0, 0);
        for (int i = 1; i <= 20; i++) {
            Due.is("37 how many", x.tell(i), i);
        }
        Due.is("37 full", x.tell(21), Due.FULL);
        Due.is("38 all so", x.check(0), 0);
        Due.is("38 none wait", x.count(7), 0);
        Due.is("38 none told", x.check(0), 0);
        x.tell(1);
        x.tell(2);
        x.tell(4);
        x.tell(9);
        Due.is("38 the first wrong", x.check(0), 3);
        Due.is("38 none wait", x.count(7), 0);
        x.tell(0);
        Due.is("38 the first is behind one bell", x.check(0), 1);
        x.tell(1);
        Due.is("38 dead", x.check(1), Due.BEYOND);
        Due.is("38 none wait then, too", x.count(7), 0);
        Due.is("38 dead", x.check(-1), Due.BEYOND);
        Due.is("38 changes nothing", x.count(0) + x.count(3), 0);
        x.tell(MIN);
        Due.is("38 any number", x.check(0), 1);
    }

    private static void promise39() {
        GhostTable x = new GhostTable();
        x.dead(0, 0, 0);
        x.dead(0, 0, 0);
        x.dead(0, 0, 1);
        x.dish(0, 0, 30);
        x.dish(0, 0, 20);
        x.serve(0, 1);
        x.bells(1);
        x.feed(0, 3);
        x.tell(1);
        x.voice(0, 1, 1);
        int[] due = {1, 3, 2, 2, 4, 24 + 19, 3, 1, 2, 1};
        for (int what = 0; what < 10; what++) {
            Due.is("39 count " + what, x.count(what), due[what]);
        }
        for (int what : new int[] {-1, 10, MIN, MAX}) {
            Due.is("39 what " + what, x.count(what), Due.BEYOND);
        }
    }

    private static void promise40() {
        GhostTable x = new GhostTable();
        x.dead(0, 0, 0);
        x.dish(0, 0, 0);
        x.hunger(9);
        x.trace(0);
        x.restore();
        x.eat(0);
        x.eat(0);
        x.eat(0);
        for (int i = 0; i < 24; i++) {
            x.tell(0);
        }
        for (int i = 0; i < 5; i++) {
            x.as(0, 1);
        }
        int[] due = {1, 2, 3, 4, 5};
        for (int k = 1; k <= 5; k++) {
            Due.is("40 told " + k, x.told(k), due[k - 1]);
        }
        for (int k : new int[] {0, 6, -1, MIN, MAX}) {
            Due.is("40 k " + k, x.told(k), Due.BEYOND);
        }
        Due.is("40 counted, too", x.told(1), 1 + 5);
    }
}
