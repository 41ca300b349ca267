/** Promises 1 to 10: each sentence that names a boundary of the tape, or of what a fair has, on both sides of it. */
public final class EdgeFairTest {
    private static final String FAIR = "mark low at 10; trier zed force 7 aim 2 tires 3 coins 11 stays 5; mark top at 90; mark same at 10;"
        + "trier abcdef force 99 aim 5 tires 20 coins 99 stays 98 lady; lean when crowd=3; lean when last=4; bell 40; crowd 7;";

    public static void main(String[] args) {
        newObject();
        feed();
        feedFull();
        end();
        fairEmpty();
        fairRefused();
        fairAnew();
        fault();
        has();
        letter();
        trier();
        mark();
        past();
        Check.close();
    }

    private static void newObject() {
        Check.sentence("1: No TRIERS, no RULES; all as without being told");
        BellHammer x = new BellHammer();
        Check.has("new", x, 0, 0, 0, 0, 50, 1, 3, 20, 0, 3, 0, 0, 0, 0);
        Check.due("trier(0, 0)", x.trier(0, 0), -1);
        Check.due("mark(0)", x.mark(0), -1);
        Check.due("rule(0, true)", x.rule(0, true), false);
        Check.due("rule(0, false)", x.rule(0, false), false);
        Check.due("kept(0, 0)", x.kept(0, 0), -1);
        Check.due("hard(0, false)", x.hard(0, false), 50);
        // 62 with slack 20 is 49, 63 is 50
        Check.due("hard(0, true)", x.hard(0, true), 63);
        Check.due("night()", x.night(), 0);
        Check.due("end(1)", new BellHammer().end(1), false);
    }

    private static void feed() {
        Check.sentence("2: Twenty bytes come behind those on the tape, of each number the highest first");
        BellHammer x = new BellHammer();
        // "bell    " "    " "    " "   0" then "0044" "; cr" "owd " "0099" ";   "
        Check.due("feed", x.feed(0x62656c6c, 0x20202020, 0x20202020, 0x20202020, 0x20202030), 20);
        Check.due("feed behind", x.feed(0x3034343b, 0x20637220, 0x20202020, 0x20202020, 0x20202020), 40);
        Check.due("end(24)", x.end(24), true);
        Check.due("fair()", x.fair(), 1);
        Check.due("has(4)", x.has(4), 44);
        Check.sentence("2: numbers below 0 are bytes as well");
        x.feed(0xff000000, 0, 0, 0, 0);
        x.fair();
        Check.due("fault(1)", x.fault(1), 0);
        x.feed(0x2020207f, 0x80000000, 0, 0, 0);
        x.fair();
        Check.due("fault(1) behind three blanks", x.fault(1), 3);
        x.feed(Integer.MIN_VALUE, Integer.MIN_VALUE, -1, Integer.MAX_VALUE, -1);
        x.end(10);
        Check.due("on() of such bytes", x.on(), false);
    }

    private static BellHammer full(String text) {
        BellHammer x = new BellHammer();
        Check.text(x, text + " ".repeat(1600 - text.length()));
        return x;
    }

    private static void feedFull() {
        Check.sentence("2: NONE, refused (0), if there would be more than 1600");
        BellHammer x = full("bell 44;");
        Check.due("feed to 1620", x.feed(0, 0, 0, 0, 0), -1);
        Check.due("status(0)", x.status(0), 1);
        Check.due("end(1601)", x.end(1601), false);
        Check.due("end(1600)", x.end(1600), true);
        Check.due("feed to 1620 again", x.feed(0, 0, 0, 0, 0), -1);
        Check.due("fair()", x.fair(), 1);
        Check.due("has(4)", x.has(4), 44);
        Check.due("feed when the tape went", x.feed(0, 0, 0, 0, 0), 20);
        BellHammer y = full("bell 44;");
        y.end(1581);
        Check.due("feed to 1601", y.feed(0, 0, 0, 0, 0), -1);
        Check.due("end(1582), nothing came", y.end(1582), false);
        Check.due("end(1580)", y.end(1580), true);
        Check.due("feed to 1600", y.feed(0x20202020, 0x20202020, 0x20202020, 0x20202020, 0x2020203f), 1600);
        Check.due("fair()", y.fair(), -1);
        Check.due("the last byte is there", y.fault(1), 1599);
        Check.due("status(0) at last", y.status(0), 2);
    }

    private static void end() {
        Check.sentence("3: The tape has its first n bytes alone: true");
        BellHammer x = new BellHammer();
        Check.due("end(0) of none", x.end(0), true);
        Check.text(x, "bell 7; bell 8; bell 9;");
        Check.due("end(23), as many as there are", x.end(23), true);
        Check.due("end(7)", x.end(7), true);
        Check.due("end(8) behind it", x.end(8), false);
        Check.due("fair()", x.fair(), 1);
        Check.due("has(4)", x.has(4), 7);
        Check.sentence("3: false, refused (0), if it has not so many, or n is below 0");
        BellHammer y = new BellHammer();
        Check.due("end(1) of none", y.end(1), false);
        Check.due("end(-1) of none", y.end(-1), false);
        Check.text(y, "bell 7; bell 8; bell");
        for (int n : new int[] {21, 22, 1600, 1601, Integer.MAX_VALUE, -1, -2, Integer.MIN_VALUE}) {
            Check.due("end(" + n + ") of 20", y.end(n), false);
        }
        Check.due("status(0)", y.status(0), 10);
        Check.due("end(15), all stayed", y.end(15), true);
        Check.due("fair()", y.fair(), 2);
        Check.due("status(0) at last", y.status(0), 10);
    }

    private static void fairEmpty() {
        Check.sentence("4: The tape is THE FAIR: how many STATEMENTS: of an empty tape");
        BellHammer x = Check.at(FAIR);
        Check.due("fair() of nothing", x.fair(), 0);
        Check.has("of nothing", x, 0, 0, 0, 0, 50, 1, 3, 20, 0, 3, 0, 0, 0, 0);
        Check.due("fault(0)", x.fault(0), 0);
        Check.due("status(1)", x.status(1), 0);
        Check.sentence("4: The tape (it goes)");
        Check.text(x, "bell 9;");
        Check.due("fair()", x.fair(), 1);
        Check.due("end(1)", x.end(1), false);
        Check.text(x, "bell x;");
        Check.due("fair() with a fault", x.fair(), -1);
        Check.due("end(1) again", x.end(1), false);
        Check.due("feed", x.feed(0, 0, 0, 0, 0), 20);
    }

    /** The offs of the next four blows of trier a, who never rings. */
    private static void offs(String when, BellHammer x, int... want) {
        int from = x.has(12);
        x.night();
        for (int k = 0; k < want.length; k++) {
            Check.due("off " + k + " " + when, x.kept(from + k, 2), want[k]);
        }
    }

    private static void fairRefused() {
        Check.sentence("4: NONE, refused (1), with a FAULT (all stays)");
        BellHammer x = Check.at(FAIR);
        int paid = x.night();
        x.rule(0, false);
        x.set(1, 30);
        Check.see(x, 0, 7, 4);
        int ways = x.was(-1);
        x.image();
        int check = x.octet(9);
        int blows = x.has(12);
        int height = x.kept(blows - 1, 4);
        Check.text(x, "mark one at 1; mark two at 2; mark three at 3; mark four at 4; trier ann force 1 aim 0 tires 0 coins 0 stays 0 lady;"
            + "trier bob force 2 aim 0 tires 0 coins 0 stays 0; trier cid force 3 aim 0 tires 0 coins 0 stays 0; lean when all; lean when all;"
            + "lean when all; bell 1; price 9; tries 1; slack 90; crowd 99; near 20; comes 9 9 9; bell 0;");
        Check.due("fair() with a fault", x.fair(), -1);
        Check.due("status(1)", x.status(1), 1);
        Check.has("with a fault", x, 3, 2, 2, 2, 40, 1, 3, 30, 7, 3, 1, paid, blows, 3);
        Check.due("trier(0, 0)", x.trier(0, 0), 7);
        Check.due("trier(0, 5)", x.trier(0, 5), 0);
        Check.due("letter(1, 0, 0)", x.letter(1, 0, 0), 26);
        Check.due("letter(0, 0, 0)", x.letter(0, 0, 0), 12);
        Check.due("mark(1)", x.mark(1), 90);
        Check.due("kept", x.kept(blows - 1, 4), height);
        Check.due("was(-1)", x.was(-1), ways);
        Check.due("a rule in force", x.leans(0, 0, 0, 4, 0), 1);
        Check.due("a rule not in force", x.leans(0, 3, 0, 0, 0), 0);
        Check.due("octet(9)", x.octet(9), check);
        Check.due("undo()", x.undo(), true);
        Check.due("slack undone", x.has(7), 20);
        Check.due("undo()", x.undo(), true);
        Check.due("rules undone", x.has(3), 3);
    }

    private static void fairAnew() {
        Check.sentence("4: Without one there were no NIGHTS, nothing is KEPT, SEEN or can be undone");
        BellHammer x = Check.at(FAIR);
        x.night();
        x.set(0, 30);
        x.rule(1, false);
        Check.see(x, 0, 7);
        Check.due("seen", x.was(-1) != -1, true);
        Check.text(x, FAIR);
        Check.due("fair()", x.fair(), 9);
        Check.has("anew", x, 3, 2, 2, 3, 40, 1, 3, 20, 7, 3, 0, 0, 0, 0);
        Check.due("kept(0, 0)", x.kept(0, 0), -1);
        Check.due("was(-1)", x.was(-1), -1);
        Check.due("strong(0)", x.strong(0), -1);
        Check.due("next(true)", x.next(true), -1);
        Check.due("reach(0, 0)", x.reach(0, 0), 0);
        Check.due("undo()", x.undo(), false);
        Check.due("status(4)", x.status(4), 1);
        x.night();
        Check.due("the first night", x.kept(0, 0), 1);
        Check.sentence("4: The tape is THE FAIR: nothing is left of one before, nor of the one before that");
        BellHammer again = new BellHammer();
        for (int i = 0; i < 5; i++) {
            Check.text(again, FAIR);
            Check.due("fair() again", again.fair(), 9);
            Check.has("again", again, 3, 2, 2, 3, 40, 1, 3, 20, 7, 3);
            Check.due("the second rule alone", again.leans(0, 0, 0, 4, 0), 1);
            Check.due("no rule", again.leans(0, 4, 0, 3, 0), 0);
            if (i % 2 == 1) {
                Check.text(again, "mark one at 1; lean when not all; trier low force 5 aim 0 tires 0 coins 0 stays 0; price 3;");
                Check.due("fair() of another one", again.fair(), 4);
                Check.has("of another one", again, 1, 1, 1, 1, 50, 3, 3, 20, 0, 3);
                Check.due("its rule", again.leans(0, 3, 0, 4, 0), 0);
            }
        }
        // Fewer triers than two fairs before: nobody of those strikes, pays or has blows at a mark.
        String two = "mark m at 1; trier a force 40 aim 0 tires 0 coins 9 stays 99; trier b force 40 aim 0 tires 0 coins 9 stays 99; lean when all;";
        String one = "mark m at 1; trier a force 40 aim 0 tires 0 coins 9 stays 99; lean when all;";
        BellHammer fewer = new BellHammer();
        for (String text : new String[] {two, two, one, one, "mark m at 1; lean when all;", ""}) {
            Check.text(fewer, text);
            fewer.fair();
            int triers = fewer.has(1);
            Check.due("night() of " + triers, fewer.night(), 3 * triers);
            Check.due("has(12) of " + triers, fewer.has(12), 3 * triers);
            Check.due("best(1) of " + triers, fewer.best(1), 3000 * triers);
            Check.due("honest(1) of " + triers, fewer.honest(1), 3000 * triers);
            Check.due("reach(0, 0) of " + triers, fewer.reach(0, 0), fewer.has(0) == 0 ? -1 : 3 * triers);
            Check.due("trier(" + triers + ", 0)", fewer.trier(triers, 0), -1);
            Check.due("mark(1)", fewer.mark(1), -1);
        }
        Check.sentence("4: the seed stays");
        String drawn = "trier a force 50 aim 5 tires 0 coins 9 stays 99; tries 2; bell 99;";
        // 1103527590, 377401575, 662824084, 1147902781 from the seed 1 on: 4, 3, 2, 0 by six offs
        BellHammer y = Check.at(drawn);
        offs("at first", y, 4, 3);
        Check.text(y, drawn);
        y.fair();
        offs("behind another fair", y, 2, 0);
        BellHammer z = Check.at(drawn);
        offs("at first", z, 4, 3);
        Check.text(z, drawn + "x");
        z.fair();
        offs("behind a fault", z, 2, 0);
    }

    private static void fault() {
        Check.sentence("5: its FAULT (what 0; 0 without, and ahead of any), its place (1; NONE without)");
        BellHammer x = new BellHammer();
        Check.due("fault(0) ahead of any", x.fault(0), 0);
        Check.due("fault(1) ahead of any", x.fault(1), -1);
        Check.text(x, "bell 0;");
        x.fair();
        Check.due("fault(0)", x.fault(0), 2);
        Check.due("fault(1)", x.fault(1), 5);
        Check.text(x, "x");
        x.fair();
        Check.due("fault(0) of the latest", x.fault(0), 1);
        Check.due("fault(1) of the latest", x.fault(1), 0);
        x.see(0);
        x.on();
        x.end(99);
        Check.due("fault(0) behind other refusals", x.fault(0), 1);
        x.fair();
        Check.due("fault(0) without", x.fault(0), 0);
        Check.due("fault(1) without", x.fault(1), -1);
        Check.sentence("5: NONE for another what");
        Check.text(x, "bell 0;");
        x.fair();
        for (int what : new int[] {-1, 2, 3, Integer.MIN_VALUE, Integer.MAX_VALUE}) {
            Check.due("fault(" + what + ")", x.fault(what), -1);
        }
    }

    private static void has() {
        Check.sentence("6: How many there are: 0 .. 13");
        BellHammer x = Check.at(FAIR + "price 2; tries 4; slack 5; near 6; comes 0 0 0;");
        // zed has coins for five blows and does not stay behind one; the other one rings
        Check.due("night()", x.night(), 4);
        x.set(0, 99);
        x.rule(0, false);
        Check.has("all of them", x, 3, 2, 2, 2, 99, 2, 4, 5, 7, 6, 1, 4, 2, 3);
        Check.sentence("6: NONE for others");
        for (int what : new int[] {-1, 14, 15, Integer.MIN_VALUE, Integer.MAX_VALUE}) {
            Check.due("has(" + what + ")", x.has(what), -1);
        }
    }

    private static void letter() {
        BellHammer x = Check.at(FAIR);
        Check.sentence("7: Letter k (0 .. 5) of the NAME: 1 .. 26; 0 behind it");
        int[][] names = {{12, 15, 23, 0, 0, 0}, {20, 15, 16, 0, 0, 0}, {19, 1, 13, 5, 0, 0}};
        for (int mark = 0; mark < 3; mark++) {
            for (int k = 0; k < 6; k++) {
                Check.due("letter(0, " + mark + ", " + k + ")", x.letter(0, mark, k), names[mark][k]);
            }
        }
        for (int k = 0; k < 6; k++) {
            Check.due("letter(1, 0, " + k + ")", x.letter(1, 0, k), new int[] {26, 5, 4, 0, 0, 0}[k]);
            Check.due("letter(1, 1, " + k + ")", x.letter(1, 1, k), k + 1);
        }
        Check.sentence("7: NONE when there is none such");
        for (int kind = 0; kind < 2; kind++) {
            Check.due("letter -1 of kind " + kind, x.letter(kind, 0, -1), -1);
            Check.due("letter 6 of kind " + kind, x.letter(kind, 0, 6), -1);
            Check.due("name -1 of kind " + kind, x.letter(kind, -1, 0), -1);
            Check.due("name 3 - kind of kind " + kind, x.letter(kind, 3 - kind, 0), -1);
            Check.due("name 2 - kind of kind " + kind, x.letter(kind, 2 - kind, 0) > 0, true);
            Check.due("far out", x.letter(kind, Integer.MAX_VALUE, 0), -1);
            Check.due("far out", x.letter(kind, Integer.MIN_VALUE, 0), -1);
            Check.due("far out", x.letter(kind, 0, Integer.MIN_VALUE), -1);
            Check.due("far out", x.letter(kind, 0, Integer.MAX_VALUE), -1);
        }
        Check.due("kind -1", x.letter(-1, 0, 0), -1);
        Check.due("kind 2", x.letter(2, 0, 0), -1);
    }

    private static void trier() {
        BellHammer x = Check.at(FAIR);
        Check.sentence("8: Of a TRIER: 0 .. 5");
        int[][] want = {{7, 2, 3, 11, 5, 0}, {99, 5, 20, 99, 98, 1}};
        for (int trier = 0; trier < 2; trier++) {
            for (int what = 0; what < 6; what++) {
                Check.due("trier(" + trier + ", " + what + ")", x.trier(trier, what), want[trier][what]);
            }
        }
        Check.sentence("8: NONE when there is none such, or for others");
        for (int n : new int[] {-1, 2, 7, 8, Integer.MIN_VALUE, Integer.MAX_VALUE}) {
            Check.due("trier(" + n + ", 0)", x.trier(n, 0), -1);
        }
        for (int n : new int[] {-1, 6, 7, Integer.MIN_VALUE, Integer.MAX_VALUE}) {
            Check.due("trier(0, " + n + ")", x.trier(0, n), -1);
            Check.due("trier(1, " + n + ")", x.trier(1, n), -1);
        }
    }

    private static void mark() {
        BellHammer x = Check.at(FAIR);
        Check.sentence("9: How high a MARK is");
        Check.due("mark(0)", x.mark(0), 10);
        Check.due("mark(1)", x.mark(1), 90);
        Check.due("mark(2)", x.mark(2), 10);
        Check.sentence("9: NONE when there is none such");
        for (int n : new int[] {-1, 3, 5, 6, Integer.MIN_VALUE, Integer.MAX_VALUE}) {
            Check.due("mark(" + n + ")", x.mark(n), -1);
        }
    }

    private static void past() {
        Check.sentence("II: The MARK of a HEIGHT: the highest one not above it");
        BellHammer x = Check.at("mark b at 50; mark a at 1; mark c at 99; bell 10;");
        int[][] past = {{1, 1}, {49, 1}, {50, 0}, {51, 0}, {98, 0}, {99, 2}};
        for (int[] p : past) {
            Check.due("past(" + p[0] + ")", x.past(p[0]), p[1]);
        }
        Check.sentence("II: of like ones the first");
        BellHammer y = Check.at("mark z at 9; mark a at 20; mark b at 20; mark c at 9;");
        Check.due("past(9)", y.past(9), 0);
        Check.due("past(19)", y.past(19), 0);
        Check.due("past(20)", y.past(20), 1);
        Check.sentence("10: The MARK of a HEIGHT (0 .. 99); NONE without, or when it can't be");
        Check.due("past(0), without", x.past(0), -1);
        Check.due("past(8), without", y.past(8), -1);
        Check.due("past(99)", y.past(99), 1);
        for (int h : new int[] {-1, 100, 101, Integer.MIN_VALUE, Integer.MAX_VALUE}) {
            Check.due("past(" + h + ")", x.past(h), -1);
            Check.due("past(" + h + ")", y.past(h), -1);
        }
        Check.due("past(99) without marks", new BellHammer().past(99), -1);
    }
}
