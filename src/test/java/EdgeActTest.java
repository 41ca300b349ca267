/** Terms II (nights, draws, blows that are kept, acts) and promises 19 to 24: each sentence that names a boundary, on both sides of it. */
public final class EdgeActTest {
    /** Four blows a night, none of which rings, by six offs. */
    private static final String FOUR = "trier a force 50 aim 5 tires 0 coins 99 stays 99; bell 99; tries 4;";

    public static void main(String[] args) {
        nightBegins();
        nightByNumbers();
        people();
        callsAtMost();
        draws();
        drawsOfAll();
        wrapAround();
        lastSixty();
        keptRound();
        takings();
        nightsFull();
        rule();
        set();
        lastTwenty();
        lastTwentyOfAllKinds();
        undo();
        undoNights();
        seed();
        kept();
        Check.close();
    }

    /** What (0 NIGHT, 1 TRIER, 2 OFF, 3 slack, 4 HEIGHT) of the blows that are told, from the k-th on. */
    private static void blows(String when, BellHammer x, int what, int k, int... want) {
        for (int i = 0; i < want.length; i++) {
            Check.due("kept(" + (k + i) + ", " + what + ") " + when, x.kept(k + i, what), want[i]);
        }
    }

    private static void nightBegins() {
        Check.sentence("II: A NIGHT: its RINGS 0, its crowd as told, TRIERS with their coins as told");
        BellHammer x = Check.at("trier a force 50 aim 0 tires 0 coins 2 stays 99; trier b force 45 aim 0 tires 0 coins 2 stays 99; crowd 5; near 5; comes 7 2 0;"
            + "slack 50; lean when rings=0 and crowd=5 and coins=2 and tried=1; lean when rings=1 and crowd=12 and coins=2; lean when crowd=12 and coins=1;");
        for (int night = 0; night < 3; night++) {
            // a rings, 5 and 7 look on; b strikes slack twice, 22 each, nobody comes
            Check.due("takings", x.night(), 3);
            blows("of night " + (night + 1), x, 0, 3 * night, night + 1, night + 1, night + 1);
            blows("of night " + (night + 1), x, 1, 3 * night, 0, 1, 1);
            blows("of night " + (night + 1), x, 3, 3 * night, 0, 1, 1);
            blows("of night " + (night + 1), x, 4, 3 * night, 50, 22, 22);
        }
        Check.due("a night of nobody", new BellHammer().night(), 0);
        Check.sentence("I: RINGS of this night so far; 1 of a lady, else 0; his coins");
        // 50 rings, 49 does not; c is a lady, d has another purse
        BellHammer y = Check.at("trier a force 49 aim 0 tires 0 coins 1 stays 0; trier b force 50 aim 0 tires 0 coins 1 stays 0;"
            + "trier c force 50 aim 0 tires 0 coins 1 stays 0 lady; trier d force 49 aim 0 tires 0 coins 2 stays 0; trier e force 50 aim 0 tires 0 coins 1 stays 0;"
            + "slack 50; lean when rings=0 and lady=1; lean when rings=1; lean when rings=2 and coins=2;");
        y.rule(1, false);
        y.night();
        blows("of a lady", y, 3, 0, 0, 0, 0, 1, 0);
        y.rule(1, true);
        y.night();
        // behind b there is one ring; all from c on are leant on, and none rings any more
        blows("behind one ring", y, 3, 5, 0, 0, 1, 1, 1);
        y.set(0, 51);
        y.night();
        blows("behind none", y, 3, 10, 0, 0, 1, 0, 0);
    }

    private static void nightByNumbers() {
        Check.sentence("II: each has a TURN, by numbers");
        StringBuilder text = new StringBuilder("tries 1; bell 99;");
        for (int i = 0; i < 8; i++) {
            text.append("trier t").append((char) ('h' - i)).append(" force ").append(90 - i).append(" aim 0 tires 0 coins 1 stays 0;");
        }
        BellHammer x = Check.at(text.toString());
        Check.due("takings", x.night(), 8);
        blows("of eight", x, 1, 0, 0, 1, 2, 3, 4, 5, 6, 7);
        blows("of eight", x, 4, 0, 90, 89, 88, 87, 86, 85, 84, 83);
        Check.due("no ninth one", x.kept(8, 1), -1);
    }

    private static void people() {
        Check.sentence("II: the crowd is more by what comes");
        // bell 50, near 4: 50 rings, 46 is near, 45 is a miss; what he sees ahead of each next one
        BellHammer x = Check.at("trier a force 50 aim 0 tires 0 coins 1 stays 0; trier b force 46 aim 0 tires 0 coins 1 stays 0;"
            + "trier c force 45 aim 0 tires 0 coins 1 stays 0; trier d force 44 aim 0 tires 0 coins 1 stays 0; crowd 90; near 4; comes 9 5 2;"
            + "lean when crowd=99 and last=0; lean when crowd=101 and lady=1; lean when crowd=103; lean when crowd=106;");
        x.night();
        // a rings: 99; b is leant on (36): a miss, 101; c is not: 103; d is
        blows("by people", x, 3, 0, 0, 1, 0, 1);
        x.rule(0, false);
        x.night();
        // b is tight now, near: 104; c a miss: 106; d is leant on by the last rule
        blows("by people, the second night", x, 3, 4, 0, 0, 0, 1);
        Check.sentence("II: the crowd (999 at most): 99 and 31 blows of 9 are 378 ahead of the last one, and it can't be more");
        StringBuilder text = new StringBuilder("bell 99; tries 4; crowd 99; comes 9 9 9; slack 90; lean when crowd=378; lean when crowd>378;");
        for (char c = 'a'; c <= 'h'; c++) {
            text.append("trier t").append(c).append(" force 50 aim 0 tires 0 coins 4 stays 99;");
        }
        BellHammer y = Check.at(text.toString());
        Check.due("takings", y.night(), 32);
        for (int k = 0; k < 32; k++) {
            Check.due("kept(" + k + ", 3)", y.kept(k, 3), k == 31 ? 1 : 0);
        }
        y.rule(0, false);
        y.night();
        Check.due("not more", y.kept(59, 3), 0);
        Check.due("in one turn", y.tree(0, 5), 135000);
    }

    private static void callsAtMost() {
        Check.sentence("An object is used for at most 512 calls after it has been made");
        StringBuilder text = new StringBuilder("bell 99; tries 4; price 9;");
        for (char c = 'a'; c <= 'h'; c++) {
            text.append("trier t").append(c).append(" force 50 aim 5 tires 0 coins 99 stays 99;");
        }
        BellHammer x = Check.at(text.toString());
        int calls = (text.length() + 19) / 20 + 2;
        int nights = 0;
        for (; calls < 508; calls++) {
            Check.due("night()", x.night(), 288);
            nights++;
        }
        Check.due("call 509, has(11)", x.has(11), 288 * nights);
        Check.due("call 510, the oldest blow", x.kept(0, 0), nights - 1);
        Check.due("call 511, undo()", x.undo(), true);
        Check.due("call 512, the latest blow", x.kept(59, 0), nights - 1);
    }

    private static void draws() {
        Check.sentence("II: OFF by a DRAW of aim and 1, blow by blow");
        // from the seed 1 on: 1103527590, 377401575, 662824084, 1147902781, 2035015474, 368800899, 1508029952, 486256185
        long[] x = {1103527590, 377401575, 662824084, 1147902781, 2035015474, 368800899, 1508029952, 486256185};
        for (int aim = 0; aim <= 5; aim++) {
            BellHammer b = Check.at("trier a force 50 aim " + aim + " tires 0 coins 99 stays 99; bell 99; tries 4;");
            b.night();
            b.night();
            for (int k = 0; k < 8; k++) {
                Check.due("off " + k + " of aim " + aim, b.kept(k, 2), x[k] / 64 % (aim + 1));
            }
        }
        blows("by six offs", night(Check.at(FOUR)), 2, 0, 4, 3, 2, 0);
    }

    private static BellHammer night(BellHammer x) {
        x.night();
        return x;
    }

    private static void drawsOfAll() {
        Check.sentence("II: A BLOW: OFF the middle by 0 .. aim");
        for (int aim = 0; aim <= 5; aim++) {
            BellHammer x = Check.at("trier a force 50 aim " + aim + " tires 0 coins 99 stays 99; bell 99; tries 4;");
            for (int i = 0; i < 15; i++) {
                x.night();
            }
            int bits = 0;
            for (int k = 0; k < 60; k++) {
                bits |= 1 << x.kept(k, 2);
            }
            Check.due("offs of aim " + aim, bits, (1 << aim + 1) - 1);
        }
    }

    private static void firstOff(int seed, long next) {
        BellHammer x = Check.at("trier a force 50 aim 5 tires 0 coins 1 stays 0; bell 99;");
        Check.due("seed(" + seed + ")", x.seed(seed), true);
        x.night();
        Check.due("off by the seed " + seed, x.kept(0, 2), next / 64 % 6);
    }

    private static void wrapAround() {
        Check.sentence("II: x becomes (1103515245 x + 12345) mod 2 to the 31; floor(x / 64) mod m");
        firstOff(0, 12345);
        firstOff(1, 1103527590);
        // 2207042835 less 2147483648
        firstOff(2, 59559187);
        // 2 to the 31 less 1: 12345 less 1103515245, and 2147483648
        firstOff(Integer.MAX_VALUE, 1043980748);
        firstOff(Integer.MAX_VALUE - 1, 2147483648L + 1043980748 - 1103515245);
        // 2 to the 30: an odd number times it is 2 to the 30 again
        firstOff(1 << 30, (1 << 30) + 12345);
    }

    private static void lastSixty() {
        Check.sentence("II: A BLOW is KEPT (the last 60 are told)");
        BellHammer x = Check.at("trier a force 50 aim 0 tires 1 coins 99 stays 99; bell 99; tries 1;");
        for (int n = 1; n <= 62; n++) {
            x.night();
            if (n >= 59) {
                Check.due("has(12) behind " + n, x.has(12), Math.min(n, 60));
                Check.due("the oldest one behind " + n, x.kept(0, 0), Math.max(1, n - 59));
                Check.due("the latest one behind " + n, x.kept(Math.min(n, 60) - 1, 0), n);
                Check.due("none behind it, " + n, x.kept(Math.min(n, 60), 0), -1);
                Check.due("none ahead of it, " + n, x.kept(-1, 0), -1);
            }
        }
        BellHammer y = Check.at("trier a force 50 aim 0 tires 1 coins 99 stays 99; bell 99; tries 4; trier b force 30 aim 0 tires 1 coins 99 stays 99;");
        for (int n = 0; n < 8; n++) {
            y.night();
        }
        // 64 blows: the first night's first four are not told any more
        blows("of 64", y, 0, 0, 1, 1, 1, 1, 2);
        blows("of 64", y, 1, 0, 1, 1, 1, 1, 0);
        blows("of 64", y, 4, 0, 30, 29, 28, 27, 50);
    }

    /** More blows than any object could hold without an end: 60 nights of 32. */
    private static void keptRound() {
        Check.sentence("II: A BLOW is KEPT: NIGHT (from 1 on), TRIER, OFF, 1 if slack, HEIGHT: of many nights");
        StringBuilder text = new StringBuilder("bell 99; tries 4; slack 10; lean when tried=2;");
        for (int i = 0; i < 8; i++) {
            text.append("trier t").append((char) ('a' + i)).append(" force ").append(60 + i).append(" aim 0 tires 5 coins 99 stays 99;");
        }
        BellHammer x = Check.at(text.toString());
        for (int night = 1; night <= 60; night++) {
            Check.due("night " + night, x.night(), 32);
            int k = night == 1 ? 0 : 28;
            if (night > 1) {
                Check.due("first of night " + night, x.kept(k, 0), night);
                Check.due("the one ahead of it", x.kept(k - 1, 0), night - 1);
                Check.due("the last one's height", x.kept(59, 4), 52);
                Check.due("the one ahead of it, slack", x.kept(58, 4), 51);
            }
            Check.due("first trier of night " + night, x.kept(k, 1), 0);
        }
        for (int i = 1; i <= 20; i++) {
            x.undo();
            Check.due("the latest one behind undo " + i, x.kept(59, 0), 60 - i);
            Check.due("the oldest one behind undo " + i, x.kept(0, 0), 59 - i);
        }
        Check.due("undo 21", x.undo(), false);
        x.night();
        Check.due("night 41 again", x.kept(59, 0), 41);
        Check.due("night 40 ahead of it", x.kept(27, 0), 40);
        Check.due("its last blow", x.kept(27, 4), 52);
    }

    private static void takings() {
        Check.sentence("II: TAKINGS of all NIGHTS together are kept; 19: A NIGHT: its TAKINGS");
        StringBuilder text = new StringBuilder("bell 99; tries 4; price 9;");
        for (char c = 'a'; c <= 'h'; c++) {
            text.append("trier t").append(c).append(" force 50 aim 5 tires 20 coins 36 stays 99;");
        }
        BellHammer x = Check.at(text.toString());
        Check.due("as much as can be", x.night(), 288);
        Check.due("has(11)", x.has(11), 288);
        x.set(2, 1);
        Check.due("at one coin", x.night(), 32);
        Check.due("has(11)", x.has(11), 320);
        x.set(0, 1);
        Check.due("a bell of 1", x.night() >= 8, true);
        BellHammer y = Check.at("trier a force 50 aim 0 tires 0 coins 8 stays 99; price 9;");
        Check.due("no coins for it", y.night(), 0);
        Check.due("a night all the same", y.has(10), 1);
        Check.due("an act all the same", y.has(13), 1);
        Check.due("no blow", y.has(12), 0);
    }

    private static void nightsFull() {
        Check.sentence("II: NIGHTS are counted, 999 at most; 19: NONE, refused (2), when there were 999");
        BellHammer x = Check.at(FOUR + "lean when all;");
        BellHammer y = Check.at(FOUR);
        Check.due("on()", Check.on(x, Check.withCheck(3, 230, 0, 0, 9, 1, 99, 20, 1)), true);
        Check.due("998 nights", x.has(10), 998);
        Check.due("night 999", x.night(), 4);
        Check.due("999 nights", x.has(10), 999);
        blows("of night 999", x, 0, 0, 999, 999, 999, 999);
        Check.due("status(2)", x.status(2), 0);
        for (int i = 1; i <= 3; i++) {
            Check.due("night 1000", x.night(), -1);
            Check.due("status(2)", x.status(2), i);
        }
        Check.has("when it was refused", x, 0, 1, 1, 1, 99, 1, 4, 20, 0, 3, 999, 13, 4, 1);
        Check.due("undo()", x.undo(), true);
        Check.due("998 nights again", x.has(10), 998);
        Check.due("night 999 again", x.night(), 4);
        // The refused ones drew nothing: these are the second four draws.
        y.night();
        y.night();
        for (int k = 0; k < 4; k++) {
            Check.due("off " + k, x.kept(k, 2), y.kept(4 + k, 2));
        }
        Check.due("night 1000 again", x.night(), -1);
        BellHammer z = new BellHammer();
        Check.due("on() at 999", Check.on(z, Check.withCheck(3, 231, 0, 0, 0, 0, 50, 20, 1)), true);
        Check.due("night of nobody", z.night(), -1);
    }

    private static void rule() {
        Check.sentence("20: A RULE is in force (or not): true");
        BellHammer x = Check.at("lean when all;".repeat(6));
        Check.due("has(3), all are at first", x.has(3), 63);
        for (int r = 0; r < 6; r++) {
            Check.due("rule(" + r + ", false)", x.rule(r, false), true);
            Check.due("has(3)", x.has(3), 63 - (2 << r) + 1);
        }
        for (int r = 5; r >= 0; r--) {
            Check.due("rule(" + r + ", true)", x.rule(r, true), true);
            Check.due("has(3)", x.has(3), 64 - (1 << r));
        }
        Check.due("has(13)", x.has(13), 12);
        Check.due("status(3)", x.status(3), 0);
        Check.sentence("20: false, refused (3), when there is none such");
        BellHammer y = Check.at("lean when all; lean when all;");
        int refused = 0;
        for (int r : new int[] {-1, 2, 5, 6, 31, 32, 33, 64, Integer.MIN_VALUE, Integer.MAX_VALUE}) {
            Check.due("rule(" + r + ", false)", y.rule(r, false), false);
            Check.due("rule(" + r + ", true)", y.rule(r, true), false);
            refused += 2;
            Check.due("status(3)", y.status(3), refused);
        }
        Check.due("has(3) stays", y.has(3), 3);
        Check.due("has(13) stays", y.has(13), 0);
        Check.due("no rules", new BellHammer().rule(0, true), false);
        Check.sentence("20: or it is so already");
        Check.due("rule(1, true)", y.rule(1, true), false);
        Check.due("rule(1, false)", y.rule(1, false), true);
        Check.due("rule(1, false) again", y.rule(1, false), false);
        Check.due("rule(0, true)", y.rule(0, true), false);
        Check.due("status(3)", y.status(3), refused + 3);
        Check.due("has(3)", y.has(3), 1);
        Check.due("has(13)", y.has(13), 1);
    }

    private static void set() {
        Check.sentence("21: The BELL (what 0), slack (1), price (2) is another one: what it was");
        int[] least = {1, 0, 1};
        int[] most = {99, 90, 9};
        int[] untold = {50, 20, 1};
        int[] has = {4, 7, 5};
        for (int what = 0; what < 3; what++) {
            BellHammer x = new BellHammer();
            Check.due("set(" + what + ", most)", x.set(what, most[what]), untold[what]);
            Check.due("has(" + has[what] + ")", x.has(has[what]), most[what]);
            Check.due("set(" + what + ", least)", x.set(what, least[what]), most[what]);
            Check.due("has(" + has[what] + ")", x.has(has[what]), least[what]);
            Check.due("has(13)", x.has(13), 2);
            Check.due("status(3)", x.status(3), 0);
            for (int other = 0; other < 3; other++) {
                Check.due("has(" + has[other] + ")", x.has(has[other]), other == what ? least[what] : untold[other]);
            }
        }
        Check.sentence("21: NONE, refused (3), when it can't be (as in I)");
        for (int what = 0; what < 3; what++) {
            BellHammer x = new BellHammer();
            int refused = 0;
            for (int n : new int[] {least[what] - 1, most[what] + 1, -1, 100, 256 + least[what], Integer.MIN_VALUE, Integer.MAX_VALUE}) {
                Check.due("set(" + what + ", " + n + ")", x.set(what, n), -1);
                refused++;
                Check.due("status(3)", x.status(3), refused);
                Check.due("has(" + has[what] + ") stays", x.has(has[what]), untold[what]);
            }
            Check.due("has(13) stays", x.has(13), 0);
        }
        Check.sentence("21: or for others");
        BellHammer x = new BellHammer();
        for (int what : new int[] {-1, 3, 4, 5, Integer.MIN_VALUE, Integer.MAX_VALUE}) {
            Check.due("set(" + what + ", 1)", x.set(what, 1), -1);
        }
        Check.due("status(3)", x.status(3), 6);
        Check.has("stays", x, 0, 0, 0, 0, 50, 1, 3, 20, 0, 3, 0, 0, 0, 0);
    }

    private static void lastTwenty() {
        Check.sentence("II: The last 20 can be undone");
        for (int acts = 19; acts <= 22; acts++) {
            BellHammer x = new BellHammer();
            for (int i = 1; i <= acts; i++) {
                x.set(0, i);
            }
            int can = Math.min(acts, 20);
            Check.due("has(13) behind " + acts, x.has(13), can);
            for (int i = 0; i < can; i++) {
                Check.due("undo() behind " + acts, x.undo(), true);
                int at = acts - 1 - i;
                Check.due("the bell", x.has(4), at == 0 ? 50 : at);
                Check.due("has(13)", x.has(13), can - 1 - i);
            }
            Check.due("one more behind " + acts, x.undo(), false);
            Check.due("the bell stays", x.has(4), acts <= 20 ? 50 : acts - 20);
        }
        // What is undone makes room again.
        BellHammer y = new BellHammer();
        for (int i = 1; i <= 25; i++) {
            y.set(0, i);
        }
        for (int i = 0; i < 5; i++) {
            y.undo();
        }
        for (int i = 0; i < 5; i++) {
            y.set(1, i);
        }
        Check.due("has(13)", y.has(13), 20);
        for (int i = 0; i < 20; i++) {
            Check.due("undo()", y.undo(), true);
        }
        Check.due("the bell", y.has(4), 5);
        Check.due("slack", y.has(7), 20);
        Check.due("undo() at last", y.undo(), false);
    }

    /** Acts of all kinds, nights of 3, 1 and no blows among them: behind each number of undos all is as it was there. */
    private static void lastTwentyOfAllKinds() {
        Check.sentence("II: ACTS: a NIGHT; a RULE in force or not; the BELL, slack, price are others. The last 20 can be undone");
        for (int acts = 20; acts <= 27; acts++) {
            BellHammer x = Check.at("trier a force 50 aim 0 tires 0 coins 3 stays 99; bell 99; tries 4; lean when all;");
            int[][] was = new int[acts][6];
            for (int act = 0; act < acts; act++) {
                was[act] = new int[] {x.has(3), x.has(4), x.has(5), x.has(7), x.has(11), x.has(12)};
                switch (act * act % 7 + act % 3) {
                    case 0: x.set(2, new int[] {1, 3, 4}[act % 3]); break;
                    case 1: x.rule(0, x.has(3) == 0); break;
                    case 2: x.set(0, 51 + act); break;
                    case 3: x.set(1, act); break;
                    default: x.night();
                }
            }
            Check.due("has(13) behind " + acts, x.has(13), 20);
            int[] has = {3, 4, 5, 7, 11, 12};
            for (int act = acts - 1; act >= acts - 20; act--) {
                Check.due("undo() of act " + act, x.undo(), true);
                for (int i = 0; i < 6; i++) {
                    Check.due("has(" + has[i] + ") ahead of act " + act + " of " + acts, x.has(has[i]), was[act][i]);
                }
            }
            Check.due("undo() at last", x.undo(), false);
        }
    }

    private static void undo() {
        Check.sentence("22: The latest ACT is undone: true");
        BellHammer x = Check.at(FOUR + "lean when all; lean when all;");
        x.rule(1, false);
        x.set(0, 98);
        x.set(1, 0);
        x.set(2, 5);
        x.night();
        x.rule(1, true);
        Check.has("behind all", x, 0, 1, 2, 3, 98, 5, 4, 0, 0, 3, 1, 20, 4, 6);
        x.undo();
        Check.has("the rule", x, 0, 1, 2, 1, 98, 5, 4, 0, 0, 3, 1, 20, 4, 5);
        x.undo();
        Check.has("the night", x, 0, 1, 2, 1, 98, 5, 4, 0, 0, 3, 0, 0, 0, 4);
        x.undo();
        Check.has("the price", x, 0, 1, 2, 1, 98, 1, 4, 0, 0, 3, 0, 0, 0, 3);
        x.undo();
        Check.has("slack", x, 0, 1, 2, 1, 98, 1, 4, 20, 0, 3, 0, 0, 0, 2);
        x.undo();
        Check.has("the bell", x, 0, 1, 2, 1, 99, 1, 4, 20, 0, 3, 0, 0, 0, 1);
        x.undo();
        Check.has("the first rule", x, 0, 1, 2, 3, 99, 1, 4, 20, 0, 3, 0, 0, 0, 0);
        Check.sentence("22: false, refused (4), when none can be");
        Check.due("status(4)", x.status(4), 0);
        Check.due("undo()", x.undo(), false);
        Check.due("undo()", x.undo(), false);
        Check.due("status(4)", x.status(4), 2);
        Check.has("stays", x, 0, 1, 2, 3, 99, 1, 4, 20, 0, 3, 0, 0, 0, 0);
        Check.due("undo() of a new object", new BellHammer().undo(), false);
        BellHammer y = Check.at(FOUR);
        y.seed(5);
        Check.see(y, 0, 9);
        y.image();
        y.set(0, 0);
        y.rule(0, true);
        Check.due("a seed, what is seen, an image, refused ones are no acts", y.undo(), false);
    }

    private static void undoNights() {
        Check.sentence("22: (the seed stays)");
        BellHammer x = Check.at(FOUR);
        x.night();
        blows("the first four", x, 2, 0, 4, 3, 2, 0);
        x.undo();
        Check.due("nothing is kept", x.has(12), 0);
        x.night();
        BellHammer y = Check.at(FOUR);
        y.night();
        y.night();
        for (int k = 0; k < 4; k++) {
            Check.due("off " + k, x.kept(k, 2), y.kept(4 + k, 2));
            Check.due("the first night again", x.kept(k, 0), 1);
        }
        x.seed(1);
        x.undo();
        x.night();
        blows("by the seed that was told", x, 2, 0, 4, 3, 2, 0);
        Check.sentence("22: what a night pushed out of the 60 is told again");
        BellHammer z = Check.at("trier a force 50 aim 0 tires 1 coins 99 stays 99; bell 99; tries 3;");
        for (int n = 0; n < 21; n++) {
            z.night();
        }
        Check.due("63 blows", z.kept(0, 0), 2);
        z.undo();
        Check.due("60 blows", z.kept(0, 0), 1);
        Check.due("has(12)", z.has(12), 60);
        Check.due("the latest", z.kept(59, 0), 20);
        z.undo();
        Check.due("57 blows", z.has(12), 57);
        Check.due("none behind", z.kept(57, 0), -1);
    }

    private static void seed() {
        Check.sentence("23: The seed: true; (It is 1 at first.)");
        BellHammer x = Check.at(FOUR);
        BellHammer y = Check.at(FOUR);
        Check.due("seed(1)", y.seed(1), true);
        x.night();
        y.night();
        blows("untold", x, 2, 0, 4, 3, 2, 0);
        blows("told", y, 2, 0, 4, 3, 2, 0);
        Check.due("seed(0)", x.seed(0), true);
        Check.due("seed(most)", x.seed(Integer.MAX_VALUE), true);
        Check.due("status(5)", x.status(5), 0);
        Check.sentence("23: false, refused (5), when it is below 0");
        Check.due("seed(1)", x.seed(1), true);
        Check.due("seed(-1)", x.seed(-1), false);
        Check.due("seed(-2)", x.seed(-2), false);
        Check.due("seed(least)", x.seed(Integer.MIN_VALUE), false);
        Check.due("status(5)", x.status(5), 3);
        x.night();
        blows("the seed stayed", x, 2, 4, 4, 3, 2, 0);
        Check.due("no act", x.has(13), 2);
    }

    private static void kept() {
        Check.sentence("24: Of the k-th blow that is told as KEPT, from the oldest on: 0 .. 4");
        BellHammer x = Check.at("trier a force 50 aim 0 tires 3 coins 2 stays 99; trier b force 60 aim 5 tires 0 coins 1 stays 0; slack 10; lean when lady=0 and tried=1;");
        x.night();
        // a rings at once; so b has the second draw, 377401575: 3 off, 42
        int[][] want = {{1, 0, 0, 0, 50}, {1, 1, 3, 0, 42}};
        for (int k = 0; k < 2; k++) {
            for (int what = 0; what < 5; what++) {
                Check.due("kept(" + k + ", " + what + ")", x.kept(k, what), want[k][what]);
            }
        }
        x.set(0, 99);
        x.night();
        // a twice, 50 and 47, slack 42; b by the fifth draw, 2035015474: 2 off, 48
        int[][] more = {{2, 0, 0, 0, 50}, {2, 0, 0, 1, 42}, {2, 1, 2, 0, 48}};
        for (int k = 0; k < 3; k++) {
            for (int what = 0; what < 5; what++) {
                Check.due("kept(" + (k + 2) + ", " + what + ")", x.kept(k + 2, what), more[k][what]);
            }
        }
        Check.sentence("24: NONE when there is none such, or for others");
        for (int k : new int[] {-1, 5, 6, 59, 60, 700, Integer.MIN_VALUE, Integer.MAX_VALUE}) {
            for (int what = 0; what < 5; what++) {
                Check.due("kept(" + k + ", " + what + ")", x.kept(k, what), -1);
            }
        }
        for (int what : new int[] {-1, 5, 6, Integer.MIN_VALUE, Integer.MAX_VALUE}) {
            Check.due("kept(0, " + what + ")", x.kept(0, what), -1);
            Check.due("kept(4, " + what + ")", x.kept(4, what), -1);
        }
        Check.due("nothing is kept", Check.at(FOUR).kept(0, 0), -1);
    }
}
