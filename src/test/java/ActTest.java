/** Promises 19 to 24: night, rule, set, undo, seed, kept. */
public final class ActTest {
    private static final String PAIR = "trier ann force 60 aim 5 tires 5 coins 9 stays 99; trier bob force 70 aim 3 tires 0 coins 5 stays 99;"
        + "bell 58; price 2; tries 4; slack 30; crowd 3; near 4; comes 5 2 1;"
        + "lean when rings>0 and lady=0; lean when crowd>9; lean when coins=5;";

    public static void main(String[] args) {
        nightByHand();
        nightGoesOn();
        nightFacts();
        nightsAtMost();
        rules();
        sets();
        undoAll();
        undoTwenty();
        undoNightsOfAllLengths();
        undoBringsBackKept();
        seeds();
        kept();
        Check.close();
    }

    /** Draws told anew: each blow of a night, by the document's words. */
    private static void nightByHand() {
        BellHammer x = Check.at("trier a force 50 aim 5 tires 1 coins 4 stays 99; trier b force 90 aim 2 tires 0 coins 99 stays 0; bell 80; tries 4;");
        x.seed(12345);
        long s = 12345;
        int paid = x.night();
        int k = 0;
        for (int blow = 0; blow < 4; blow++) {
            s = (1103515245L * s + 12345) % (1L << 31);
            int off = (int) (s / 64 % 6);
            Check.due("off " + k, x.kept(k, 2), off);
            Check.due("height " + k, x.kept(k, 4), (50 - blow) * (10 - off) / 10);
            Check.due("trier " + k, x.kept(k, 1), 0);
            k++;
        }
        s = (1103515245L * s + 12345) % (1L << 31);
        int off = (int) (s / 64 % 3);
        Check.due("off of b", x.kept(k, 2), off);
        Check.due("height of b", x.kept(k, 4), Math.min(80, 90 * (10 - off) / 10));
        Check.due("takings", paid, 4 + x.has(12) - 4);
        Check.due("has(11)", x.has(11), paid);
        Check.due("has(10)", x.has(10), 1);
    }

    /** Rings and crowd go on from trier to trier, coins and all else begin anew each night. */
    private static void nightGoesOn() {
        String one = " force 50 aim 0 tires 0 coins 2 stays 99";
        BellHammer x = Check.at("trier a" + one + ";trier b" + one + ";trier c" + one + " lady; bell 50; crowd 1; comes 4 0 0; slack 10;"
            + "lean when rings=1 and crowd=5; lean when lady=1 and rings=1;");
        for (int night = 1; night <= 3; night++) {
            // a rings; b strikes slack twice; the lady strikes slack twice as well
            Check.due("night " + night, x.night(), 5);
            int from = 5 * (night - 1);
            int[] trier = {0, 1, 1, 2, 2};
            int[] height = {50, 45, 45, 45, 45};
            for (int k = 0; k < 5; k++) {
                Check.due("kept night", x.kept(from + k, 0), night);
                Check.due("kept trier", x.kept(from + k, 1), trier[k]);
                Check.due("kept slack", x.kept(from + k, 3), k == 0 ? 0 : 1);
                Check.due("kept height", x.kept(from + k, 4), height[k]);
            }
        }
        x.rule(0, false);
        // b rings now: two rings, so the lady rings too
        Check.due("night without the first rule", x.night(), 3);
        Check.due("takings of all nights", x.has(11), 18);
        x.set(2, 3);
        Check.due("night too dear", x.night(), 0);
        Check.due("nights", x.has(10), 5);
    }

    /** What a test asks for ahead of each of three blows; tight they are 50 (near), 49, 48. */
    private static void nightFacts() {
        String one = "trier a force 50 aim 0 tires 1 coins 7 stays 99; bell 60; near 10; tries 4; slack 10; comes 0 2 1; crowd 3; price 2; lean when ";
        String[] tests = {"last=0", "last=50", "last=49", "tried=0", "tried=3", "coins=7", "coins=5", "coins=1", "crowd=3", "crowd=5",
            "crowd=6", "rings=0", "lady=1"};
        String[] slack = {"100", "010", "001", "100", "000", "100", "010", "000", "100", "010", "001", "111", "000"};
        for (int i = 0; i < tests.length; i++) {
            BellHammer x = Check.at(one + tests[i] + ";");
            Check.due("three blows", x.night(), 6);
            for (int k = 0; k < 3; k++) {
                Check.due(tests[i] + " at blow " + k, x.kept(k, 3), slack[i].charAt(k) - '0');
            }
        }
    }

    private static void nightsAtMost() {
        BellHammer x = new BellHammer();
        Check.due("on()", Check.on(x, Check.withCheck(3, 230, 0, 0, 0, 0, 50, 20, 1)), true);
        Check.due("has(10)", x.has(10), 998);
        Check.due("night 999", x.night(), 0);
        Check.due("night 1000", x.night(), -1);
        Check.due("status(2)", x.status(2), 1);
        Check.due("has(13)", x.has(13), 1);
        Check.due("undo()", x.undo(), true);
        Check.due("night 999 again", x.night(), 0);
    }

    private static void rules() {
        BellHammer x = Check.at("lean when all; lean when all; lean when all;");
        Check.due("has(3)", x.has(3), 7);
        Check.due("rule(1, true) already", x.rule(1, true), false);
        Check.due("rule(1, false)", x.rule(1, false), true);
        Check.due("has(3) less", x.has(3), 5);
        Check.due("rule(1, false) already", x.rule(1, false), false);
        Check.due("rule(1, true)", x.rule(1, true), true);
        Check.due("has(3) more", x.has(3), 7);
        Check.due("rule(3, false)", x.rule(3, false), false);
        Check.due("rule(3, true)", x.rule(3, true), false);
        Check.due("rule(-1, false)", x.rule(-1, false), false);
        Check.due("rule(32, true)", x.rule(32, true), false);
        Check.due("status(3)", x.status(3), 6);
        Check.due("has(13)", x.has(13), 2);
    }

    private static void sets() {
        BellHammer x = new BellHammer();
        int[][] edges = {{1, 99}, {0, 90}, {1, 9}};
        int[] was = {50, 20, 1};
        int[] has = {4, 7, 5};
        for (int what = 0; what < 3; what++) {
            Check.due("set below " + what, x.set(what, edges[what][0] - 1), -1);
            Check.due("set above " + what, x.set(what, edges[what][1] + 1), -1);
            Check.due("set least " + what, x.set(what, edges[what][0]), was[what]);
            Check.due("set most " + what, x.set(what, edges[what][1]), edges[what][0]);
            Check.due("has " + what, x.has(has[what]), edges[what][1]);
            Check.due("set the same " + what, x.set(what, edges[what][1]), edges[what][1]);
        }
        Check.due("set(3, 1)", x.set(3, 1), -1);
        Check.due("set(-1, 1)", x.set(-1, 1), -1);
        Check.due("status(3)", x.status(3), 8);
        Check.due("has(13)", x.has(13), 9);
    }

    private static void undoAll() {
        BellHammer x = Check.at(PAIR);
        Check.due("undo() of nothing", x.undo(), false);
        Check.due("status(4)", x.status(4), 1);
        x.set(0, 77);
        x.rule(2, false);
        int first = x.night();
        int blows = x.has(12);
        x.set(2, 1);
        x.set(1, 0);
        x.night();
        x.rule(2, true);
        int[][] want = {{3, 3}, {10, 1}, {7, 30}, {5, 2}, {10, 0}, {3, 7}, {4, 58}};
        for (int[] w : want) {
            Check.due("has(13)", x.has(13) > 0, true);
            Check.due("undo()", x.undo(), true);
            Check.due("has(" + w[0] + ") undone", x.has(w[0]), w[1]);
            if (w[0] == 7) {
                Check.due("takings of the first night", x.has(11), first);
                Check.due("blows of the first night", x.has(12), blows);
            }
        }
        Check.due("has(11)", x.has(11), 0);
        Check.due("has(12)", x.has(12), 0);
        Check.due("undo() of all", x.undo(), false);
        Check.due("status(4)", x.status(4), 2);
    }

    private static void undoTwenty() {
        BellHammer x = new BellHammer();
        for (int bell = 1; bell <= 25; bell++) {
            x.set(0, bell);
            Check.due("has(13)", x.has(13), Math.min(20, bell));
        }
        for (int i = 1; i <= 20; i++) {
            Check.due("undo " + i, x.undo(), true);
            Check.due("bell", x.has(4), 25 - i);
        }
        Check.due("undo 21", x.undo(), false);
    }

    /** Thirty acts, nights of 3, 1, 0 blows among others: each undo takes back just its own. */
    private static void undoNightsOfAllLengths() {
        BellHammer x = Check.at("trier a force 50 aim 0 tires 0 coins 3 stays 99; bell 99; tries 4; lean when all;");
        int[] blows = new int[31];
        int[] takings = new int[31];
        int[] rules = new int[31];
        int[] price = new int[31];
        int[] prices = {1, 3, 4};
        for (int act = 0; act <= 30; act++) {
            blows[act] = x.has(12);
            takings[act] = x.has(11);
            rules[act] = x.has(3);
            price[act] = x.has(5);
            if (act % 3 == 0) {
                x.set(2, prices[act / 3 % 3]);
            } else if (act % 7 == 1) {
                x.rule(0, x.has(3) == 0);
            } else {
                x.night();
            }
        }
        for (int act = 30; act > 10; act--) {
            Check.due("undo", x.undo(), true);
            Check.due("blows ahead of act " + act, x.has(12), blows[act]);
            Check.due("takings ahead of act " + act, x.has(11), takings[act]);
            Check.due("rules ahead of act " + act, x.has(3), rules[act]);
            Check.due("price ahead of act " + act, x.has(5), price[act]);
        }
        Check.due("undo 21", x.undo(), false);
    }

    /** The blows that 20 nights pushed out of the last 60 are told again behind 20 undos. */
    private static void undoBringsBackKept() {
        StringBuilder text = new StringBuilder("bell 99; tries 4;");
        for (char c = 'a'; c < 'i'; c++) {
            text.append("trier t").append(c).append(" force 50 aim 5 tires 7 coins 9 stays 99;");
        }
        BellHammer x = Check.at(text.toString());
        for (int night = 0; night < 7; night++) {
            x.night();
        }
        // An object is good for 512 calls: the offs, and a few numbers of the others.
        int[] then = new int[60];
        for (int k = 0; k < 60; k++) {
            then[k] = x.kept(k, k % 4 == 0 ? k / 4 % 5 : 2);
        }
        for (int night = 0; night < 20; night++) {
            Check.due("night", x.night(), 32);
            Check.due("has(12)", x.has(12), 60);
        }
        Check.due("the latest night", x.kept(59, 0), 27);
        Check.due("the oldest one", x.kept(0, 0), 26);
        for (int i = 0; i < 20; i++) {
            x.undo();
        }
        for (int k = 0; k < 60; k++) {
            Check.due("kept(" + k + ", ..) again", x.kept(k, k % 4 == 0 ? k / 4 % 5 : 2), then[k]);
        }
        Check.due("undo 21", x.undo(), false);
        x.night();
        Check.due("night 8 again", x.kept(59, 0), 8);
        Check.due("behind night 7", x.kept(27, 0), 7);
    }

    private static void seeds() {
        BellHammer x = Check.at(PAIR);
        BellHammer y = Check.at(PAIR);
        y.seed(1);
        Check.due("1 at first", x.night(), y.night());
        for (int k = 0; k < x.has(12); k++) {
            Check.due("off " + k, x.kept(k, 2), y.kept(k, 2));
        }
        Check.due("seed(-1)", x.seed(-1), false);
        Check.due("seed least", x.seed(Integer.MIN_VALUE), false);
        Check.due("status(5)", x.status(5), 2);
        Check.due("seed(0)", x.seed(0), true);
        Check.due("seed most", x.seed(Integer.MAX_VALUE), true);
        long s = (1103515245L * Integer.MAX_VALUE + 12345) % (1L << 31);
        int before = x.has(12);
        x.night();
        Check.due("off behind the greatest seed", x.kept(before, 2), s / 64 % 6);
        // Undoing a night leaves the seed where the night brought it.
        BellHammer a = Check.at("trier a force 50 aim 5 tires 0 coins 4 stays 99; bell 99; tries 4;");
        BellHammer b = Check.at("trier a force 50 aim 5 tires 0 coins 4 stays 99; bell 99; tries 4;");
        a.night();
        a.undo();
        a.night();
        b.night();
        b.night();
        for (int k = 0; k < 4; k++) {
            Check.due("off with the seed that stays", a.kept(k, 2), b.kept(4 + k, 2));
        }
    }

    private static void kept() {
        BellHammer x = Check.at("trier a force 50 aim 0 tires 3 coins 9 stays 99; bell 50; tries 4; lean when all; slack 10;");
        x.night();
        int[][] want = {{1, 0, 0, 1, 45}, {1, 0, 0, 1, 42}, {1, 0, 0, 1, 39}, {1, 0, 0, 1, 36}};
        for (int k = 0; k < 4; k++) {
            for (int what = 0; what < 5; what++) {
                Check.due("kept(" + k + ", " + what + ")", x.kept(k, what), want[k][what]);
            }
        }
        Check.due("kept(4, 0)", x.kept(4, 0), -1);
        Check.due("kept(-1, 0)", x.kept(-1, 0), -1);
        Check.due("kept(0, 5)", x.kept(0, 5), -1);
        Check.due("kept(0, -1)", x.kept(0, -1), -1);
        for (int night = 2; night <= 16; night++) {
            x.night();
            Check.due("has(12)", x.has(12), Math.min(60, 4 * night));
        }
        Check.due("kept(0, 0)", x.kept(0, 0), 2);
        Check.due("kept(59, 0)", x.kept(59, 0), 16);
        Check.due("kept(60, 0)", x.kept(60, 0), -1);
    }
}
