/** Terms III (what is seen) and promises 25 to 30: each sentence that names a boundary, on both sides of it. */
public final class EdgeSeenTest {
    /** Ann: tight 60, 54 (both ring), slack 48, 43; then 55, 49 and 44, 39. Bob: 48, 43, 38 and 38, 34, 30. */
    private static final String PAIR = "trier ann force 60 aim 1 tires 5 coins 0 stays 0; trier bob force 48 aim 2 tires 0 coins 0 stays 0; bell 50; slack 20;";

    public static void main(String[] args) {
        seeBytes();
        seeTrier();
        seeStays();
        ways();
        ringing();
        was();
        wasNone();
        strong();
        strongNone();
        next();
        nextNone();
        clear();
        clearNone();
        reach();
        reachNone();
        Check.close();
    }

    private static void seeBytes() {
        Check.sentence("25: 1 to 4 bytes");
        BellHammer x = Check.at(PAIR);
        Check.due("none", Check.see(x, 0), false);
        Check.due("one", Check.see(x, 0, 1), true);
        Check.due("was(0), was(1)", x.was(0) + 10 * x.was(1), -10);
        Check.due("four", Check.see(x, 0, 1, 2, 3, 4), true);
        Check.due("was(3), was(4)", x.was(3) + 10 * x.was(4), -10);
        Check.due("five", Check.see(x, 0, 1, 2, 3, 4, 5), false);
        Check.due("twenty", Check.see(x, 0, new int[20]), false);
        Check.due("status(1)", x.status(1), 3);
        Check.sentence("25: (0 .. 99, the BELL at most)");
        Check.due("0", Check.see(x, 0, 0), true);
        Check.due("the bell", Check.see(x, 0, 50), true);
        Check.due("above the bell", Check.see(x, 0, 51), false);
        Check.due("99 above the bell", Check.see(x, 0, 99), false);
        Check.due("128", Check.see(x, 0, 128), false);
        Check.due("255", Check.see(x, 0, 255), false);
        for (int k = 0; k < 4; k++) {
            int[] four = {50, 50, 50, 50};
            Check.due("four of the bell", Check.see(x, 0, four), true);
            four[k] = 51;
            Check.due("above the bell, byte " + k, Check.see(x, 0, four), false);
        }
        x.set(0, 99);
        Check.due("99, a bell of 99", Check.see(x, 0, 99), true);
        Check.due("100, a bell of 99", Check.see(x, 0, 100), false);
        x.set(0, 1);
        Check.due("1, a bell of 1", Check.see(x, 0, 1), true);
        Check.due("2, a bell of 1", Check.see(x, 0, 2), false);
    }

    private static void seeTrier() {
        Check.sentence("25: false, refused (1), when it is none such: of a TRIER");
        BellHammer x = Check.at(PAIR);
        Check.due("see(0)", Check.see(x, 0, 9), true);
        Check.due("see(1)", Check.see(x, 1, 9), true);
        int refused = 0;
        for (int trier : new int[] {-1, 2, 7, 8, Integer.MIN_VALUE, Integer.MAX_VALUE}) {
            Check.due("see(" + trier + ")", Check.see(x, trier, 9), false);
            refused++;
            Check.due("status(1)", x.status(1), refused);
        }
        Check.due("nobody", Check.see(new BellHammer(), 0, 9), false);
    }

    private static void seeStays() {
        Check.sentence("25: The tape (it goes); all staying");
        BellHammer x = Check.at(PAIR);
        Check.see(x, 1, 38, 48);
        Check.due("the tape went", x.end(1), false);
        Check.due("ways", x.was(-1), 2);
        int[][] wrong = {{1, 51}, {1, 38, 51}, {1, 1, 1, 1, 1, 1}, {2, 9}, {-1, 9}, {1}};
        for (int[] w : wrong) {
            Check.due("see(" + w[0] + ")", Check.see(x, w[0], java.util.Arrays.copyOfRange(w, 1, w.length)), false);
            Check.due("the tape went", x.end(1), false);
            Check.due("ways stay", x.was(-1), 2);
            Check.due("was(0) stays", x.was(0), 500);
            Check.due("was(1) stays", x.was(1), 0);
            Check.due("was(2) stays", x.was(2), -1);
        }
        Check.see(x, 0, 48);
        Check.due("another one is seen", x.was(-1), 1);
        Check.due("one blow alone", x.was(1), -1);
    }

    private static void ways() {
        Check.sentence("III: WAYS: for each blow its OFF and whether it was slack, all alike, by which just these are SEEN");
        BellHammer x = Check.at(PAIR);
        int[][] bob = {{48, 1}, {43, 1}, {38, 2}, {34, 1}, {30, 1}, {29, 0}, {31, 0}, {37, 0}, {39, 0}, {47, 0}, {49, 0}, {50, 0}, {0, 0}};
        for (int[] b : bob) {
            Check.see(x, 1, b[0]);
            Check.due("ways of " + b[0], x.was(-1), b[1]);
        }
        Check.see(x, 1, 38, 38, 38, 38);
        Check.due("ways of four", x.was(-1), 16);
        Check.see(x, 1, 38, 38, 38, 39);
        Check.due("ways of four, the last one can't be", x.was(-1), 0);
        Check.see(x, 1, 39, 38, 38, 38);
        Check.due("ways of four, the first one can't be", x.was(-1), 0);
        Check.see(x, 0, 48, 49);
        Check.due("ann tires", x.was(-1), 1);
        Check.see(x, 0, 49, 48);
        Check.due("not the other way round", x.was(-1), 0);
        // no rule is asked, nor whether one goes on behind a ring, nor how many tries there are
        BellHammer y = Check.at("trier a force 50 aim 0 tires 0 coins 0 stays 0; tries 1; lean when all;");
        Check.see(y, 0, 50, 50);
        Check.due("two rings", y.was(-1), 1);
        // as many as can be: aim 5, all 0
        BellHammer z = Check.at("trier a force 1 aim 5 tires 0 coins 0 stays 0; slack 90;");
        Check.see(z, 0, 0, 0, 0, 0);
        Check.due("eleven to the fourth", z.was(-1), 14641);
        z.set(0, 1);
        Check.due("a bell of 1", z.was(-1), 14641);
    }

    private static void ringing() {
        Check.sentence("III: (a HEIGHT of the BELL: any not below it)");
        BellHammer x = Check.at(PAIR);
        Check.see(x, 0, 50);
        Check.due("60 and 54", x.was(-1), 2);
        x.set(0, 54);
        Check.due("50 is no ring now", x.was(-1), 0);
        Check.see(x, 0, 54);
        Check.due("a bell of 54", x.was(-1), 2);
        x.set(0, 55);
        Check.see(x, 0, 55);
        Check.due("a bell of 55", x.was(-1), 1);
        x.set(0, 60);
        Check.see(x, 0, 60);
        Check.due("a bell of 60", x.was(-1), 1);
        x.set(0, 61);
        Check.see(x, 0, 61);
        Check.due("a bell of 61", x.was(-1), 0);
        Check.see(x, 0, 60);
        Check.due("60 below it", x.was(-1), 1);
        x.set(0, 59);
        Check.due("60 can't be any more", x.was(-1), 0);
        x.set(0, 1);
        Check.see(x, 0, 1, 1);
        Check.due("all ring", x.was(-1), 16);
        Check.see(x, 0, 0);
        Check.due("none is below", x.was(-1), 0);
    }

    private static void was() {
        Check.sentence("26: WAYS of what is SEEN: how many (k NONE), WAS k SLACK in thousandths (k 0 and on; 0 without WAYS)");
        BellHammer x = Check.at(PAIR);
        Check.see(x, 1, 38, 48, 30, 38);
        Check.due("was(-1)", x.was(-1), 4);
        int[] slack = {500, 0, 1000, 500};
        for (int k = 0; k < 4; k++) {
            Check.due("was(" + k + ")", x.was(k), slack[k]);
        }
        Check.see(x, 1, 39, 30);
        Check.due("no ways", x.was(-1), 0);
        Check.due("0 without ways", x.was(0), 0);
        Check.due("0 without ways, though this one would be slack", x.was(1), 0);
        // tight 1, 0, 0; slack 0, 0, 0: three of five
        BellHammer y = Check.at("trier a force 1 aim 2 tires 0 coins 0 stays 0;");
        Check.see(y, 0, 0);
        Check.due("three of five", y.was(0), 600);
        BellHammer z = Check.at("trier a force 1 aim 3 tires 0 coins 0 stays 0;");
        Check.see(z, 0, 0);
        Check.due("four of seven, floor", z.was(0), 571);
        BellHammer w = Check.at("trier a force 50 aim 1 tires 0 coins 0 stays 0; bell 45; slack 10;");
        // tight 50, 45 ring, slack 45 rings
        Check.see(w, 0, 45);
        Check.due("one of three", w.was(0), 333);
    }

    private static void wasNone() {
        Check.sentence("26: NONE when nothing is SEEN, or for others");
        BellHammer x = Check.at(PAIR);
        for (int k = -2; k < 5; k++) {
            Check.due("nothing is seen, was(" + k + ")", x.was(k), -1);
        }
        for (int n = 1; n <= 4; n++) {
            Check.see(x, 0, new int[n]);
            Check.due("was(-1) of " + n, x.was(-1), 0);
            Check.due("the last one of " + n, x.was(n - 1), 0);
            Check.due("one behind " + n, x.was(n), -1);
            Check.due("far behind " + n, x.was(Integer.MAX_VALUE), -1);
            Check.due("was(-2) of " + n, x.was(-2), -1);
            Check.due("far below " + n, x.was(Integer.MIN_VALUE), -1);
        }
    }

    private static void strong() {
        Check.sentence("III: STRONG: forces 1 .. 99 in place of his own by which there are WAYS");
        BellHammer x = Check.at("trier a force 9 aim 0 tires 0 coins 0 stays 0; bell 99; slack 50;");
        int[][] ones = {{99, 1, 99, 99}, {98, 1, 98, 98}, {49, 3, 49, 99}, {50, 1, 50, 50}, {1, 3, 1, 3}, {0, 1, 1, 1}};
        for (int[] o : ones) {
            Check.see(x, 0, o[0]);
            Check.due("forces of " + o[0], x.strong(0), o[1]);
            Check.due("least of " + o[0], x.strong(1), o[2]);
            Check.due("greatest of " + o[0], x.strong(2), o[3]);
        }
        x.set(0, 1);
        Check.see(x, 0, 1);
        Check.due("any force rings", x.strong(0), 99);
        Check.due("the least", x.strong(1), 1);
        Check.due("the greatest", x.strong(2), 99);
        Check.due("his own stays", x.trier(0, 0), 9);
        Check.due("his own blow", Check.at("trier a force 9 aim 0 tires 0 coins 0 stays 0;").high(0, 0, 0, false), 9);
        // 20 less a blow: 21 and 1, or less and 1 (1 at least)
        BellHammer y = Check.at("trier a force 9 aim 0 tires 20 coins 0 stays 0; bell 99; slack 0;");
        Check.see(y, 0, 21, 1);
        Check.due("21 and 1", y.strong(0), 1);
        Check.see(y, 0, 5, 1, 1, 1);
        Check.due("5 and 1", y.strong(0), 1);
        Check.see(y, 0, 22, 1);
        Check.due("22 and 1", y.strong(0), 0);
    }

    private static void strongNone() {
        Check.sentence("27: how many forces (what 0), the least, the greatest (1, 2; NONE without)");
        BellHammer x = Check.at("trier a force 9 aim 0 tires 0 coins 0 stays 0; bell 99; slack 50;");
        Check.see(x, 0, 10, 12);
        Check.due("how many", x.strong(0), 0);
        Check.due("the least", x.strong(1), -1);
        Check.due("the greatest", x.strong(2), -1);
        Check.sentence("27: NONE when nothing is SEEN, or for others");
        for (int what : new int[] {-1, 3, 4, Integer.MIN_VALUE, Integer.MAX_VALUE}) {
            Check.due("strong(" + what + "), no forces", x.strong(what), -1);
        }
        Check.see(x, 0, 10);
        for (int what : new int[] {-1, 3, 4, Integer.MIN_VALUE, Integer.MAX_VALUE}) {
            Check.due("strong(" + what + ")", x.strong(what), -1);
        }
        Check.due("strong(2)", x.strong(2), 21);
        BellHammer y = Check.at("trier a force 9 aim 0 tires 0 coins 0 stays 0;");
        for (int what = -1; what < 4; what++) {
            Check.due("nothing is seen, strong(" + what + ")", y.strong(what), -1);
        }
    }

    private static void next() {
        Check.sentence("28: How likely the blow behind those that are SEEN RINGS, tight or slack, in thousandths (floor; his OFFS alike)");
        // first 60, 54, 48; second 55, 49, 44; third 50, 45, 40; fourth 45, 40, 36
        BellHammer x = Check.at("trier a force 60 aim 2 tires 5 coins 0 stays 0; bell 45; slack 10; tries 4;");
        Check.see(x, 0, 1);
        // 55, 49 ring, 44 does not; slack 49, 44, 39
        Check.due("second, tight", x.next(false), 666);
        Check.due("second, slack", x.next(true), 333);
        Check.see(x, 0, 1, 1);
        // slack 45, 40, 36
        Check.due("third, tight", x.next(false), 666);
        Check.due("third, slack", x.next(true), 333);
        Check.see(x, 0, 1, 1, 1);
        Check.due("fourth, tight", x.next(false), 333);
        Check.due("fourth, slack", x.next(true), 0);
        x.set(0, 36);
        Check.due("fourth, all", x.next(false), 1000);
        x.set(0, 46);
        Check.due("fourth, none", x.next(false), 0);
        BellHammer six = Check.at("trier a force 50 aim 5 tires 0 coins 0 stays 0;");
        Check.see(six, 0, 9);
        Check.due("one of six", six.next(false), 166);
        six.set(0, 30);
        Check.due("five of six", six.next(false), 833);
    }

    private static void nextNone() {
        Check.sentence("28: NONE when nothing is SEEN, or as many as tries, or more");
        for (int tries = 1; tries <= 4; tries++) {
            BellHammer x = Check.at("trier a force 60 aim 0 tires 0 coins 0 stays 0; tries " + tries + ";");
            Check.due("nothing is seen", x.next(false), -1);
            Check.due("nothing is seen", x.next(true), -1);
            for (int n = 1; n <= 4; n++) {
                Check.see(x, 0, new int[n]);
                Check.due(n + " of " + tries, x.next(false), n < tries ? 1000 : -1);
                Check.due(n + " of " + tries + ", slack", x.next(true), n < tries ? 0 : -1);
            }
        }
    }

    private static void clear() {
        Check.sentence("29: the greatest OFF up to which no tight HEIGHT is a slack one (OFF 0 .. 9, his aim counts for nothing)");
        BellHammer x = Check.at("trier a force 60 aim 0 tires 20 coins 0 stays 0; trier b force 10 aim 5 tires 0 coins 0 stays 0; bell 99; slack 20;");
        // 60, 54, 48 and 48, 43
        Check.due("the third is the first one slack", x.clear(0), 1);
        // the second one's 48, tight, is no first one
        Check.due("that he tires counts for nothing", Check.at("trier a force 60 aim 0 tires 12 coins 0 stays 0; bell 99; slack 20;").clear(0), 1);
        x.set(1, 1);
        // slack 59, 53, 47, 41, 35, 29, 23, 17, 11, 5; tight 60, 54, 48, 42, 36, 30, 24, 18, 12, 6
        Check.due("none is", x.clear(0), 9);
        // tight 10, 9, .. 1; slack 9, 8, ..
        Check.due("the second is the first one slack", x.clear(1), 0);
        x.set(1, 90);
        // slack 6, 5, ..; tight 9 off is 6
        Check.due("the tenth is the first one slack", x.clear(0), 8);
        x.set(1, 50);
        // slack 30; tight 5 off is 30
        Check.due("the sixth is the first one slack", x.clear(0), 4);
        x.set(0, 40);
        // tight 40, 40, 40, 40, 36, 30
        Check.due("rings are all alike", x.clear(0), 4);
        x.set(0, 30);
        Check.due("the first one slack rings too", x.clear(0), -1);
        x.set(0, 31);
        // tight 31 (60 to 36), then 30
        Check.due("a bell just above it", x.clear(0), 4);
    }

    private static void clearNone() {
        Check.sentence("29: NONE when there is none, or none such TRIER");
        BellHammer x = Check.at("trier a force 60 aim 0 tires 0 coins 0 stays 0; trier b force 99 aim 0 tires 0 coins 0 stays 0; bell 50; slack 0;");
        Check.due("slack 0", x.clear(0), -1);
        x.set(1, 1);
        Check.due("both ring", x.clear(0), -1);
        x.set(1, 20);
        Check.due("60 rings, 48 does not", x.clear(0), 1);
        Check.due("99 and 79 ring", x.clear(1), -1);
        for (int trier : new int[] {-1, 2, 8, Integer.MIN_VALUE, Integer.MAX_VALUE}) {
            Check.due("clear(" + trier + ")", x.clear(trier), -1);
        }
        Check.due("nobody", new BellHammer().clear(0), -1);
    }

    private static void reach() {
        Check.sentence("30: Of blows that are told as KEPT those whose MARK it is: how many (what 0), the TRIER with the most (1)");
        BellHammer x = Check.at("mark low at 10; mark mid at 30; mark same at 30; mark top at 40; bell 50; tries 2;"
            + "trier a force 9 aim 0 tires 0 coins 9 stays 99; trier b force 30 aim 0 tires 1 coins 9 stays 99;"
            + "trier c force 39 aim 0 tires 9 coins 9 stays 99; trier d force 40 aim 0 tires 1 coins 9 stays 99; trier e force 99 aim 0 tires 0 coins 9 stays 0;");
        for (int mark = 0; mark < 4; mark++) {
            Check.due("none yet", x.reach(mark, 0), 0);
            Check.due("nobody yet", x.reach(mark, 1), -1);
        }
        x.night();
        // a: 9, 9: no mark; b: 30 (mid), 29 (low); c: 39, 30 (mid); d: 40 (top), 39 (mid); e: the bell, 50 (top)
        int[][] want = {{1, 1}, {4, 2}, {0, -1}, {2, 3}};
        for (int mark = 0; mark < 4; mark++) {
            Check.due("reach(" + mark + ", 0)", x.reach(mark, 0), want[mark][0]);
            Check.due("reach(" + mark + ", 1)", x.reach(mark, 1), want[mark][1]);
        }
        Check.sentence("30: of like ones the first; NONE without");
        Check.due("top, d and e alike", x.reach(3, 1), 3);
        Check.due("same, nobody", x.reach(2, 1), -1);
        x.undo();
        Check.due("none any more", x.reach(1, 0), 0);
        Check.due("nobody any more", x.reach(1, 1), -1);
        Check.sentence("30: Of blows that are told as KEPT (the last 60)");
        BellHammer y = Check.at("mark m at 1; trier a force 40 aim 0 tires 0 coins 1 stays 0; trier b force 30 aim 0 tires 0 coins 1 stays 0;");
        for (int n = 1; n <= 31; n++) {
            y.night();
            if (n >= 29) {
                Check.due("behind " + n + " nights", y.reach(0, 0), Math.min(60, 2 * n));
            }
        }
        y.set(0, 30);
        y.night();
        Check.due("still the last 60", y.reach(0, 0), 60);
        Check.due("as many of each, the first", y.reach(0, 1), 0);
        // At two coins b alone strikes: his blow pushes the oldest one, which is a's, out of the 60.
        BellHammer z = Check.at("mark m at 1; trier a force 40 aim 0 tires 0 coins 1 stays 0; trier b force 30 aim 0 tires 0 coins 2 stays 0;");
        for (int n = 0; n < 30; n++) {
            z.night();
        }
        Check.due("alike", z.reach(0, 1), 0);
        z.set(2, 2);
        z.night();
        Check.due("b has one more", z.reach(0, 1), 1);
        Check.due("60 still", z.reach(0, 0), 60);
        z.undo();
        Check.due("alike again", z.reach(0, 1), 0);
    }

    private static void reachNone() {
        Check.sentence("30: NONE when there is no such MARK, or for others");
        BellHammer x = Check.at("mark m at 1; mark n at 2; trier a force 40 aim 0 tires 0 coins 1 stays 0;");
        x.night();
        Check.due("reach(1, 0)", x.reach(1, 0), 1);
        Check.due("reach(1, 1)", x.reach(1, 1), 0);
        for (int mark : new int[] {-1, 2, 6, Integer.MIN_VALUE, Integer.MAX_VALUE}) {
            Check.due("reach(" + mark + ", 0)", x.reach(mark, 0), -1);
            Check.due("reach(" + mark + ", 1)", x.reach(mark, 1), -1);
        }
        for (int what : new int[] {-1, 2, 3, Integer.MIN_VALUE, Integer.MAX_VALUE}) {
            Check.due("reach(0, " + what + ")", x.reach(0, what), -1);
        }
        // blows without a mark are of none
        BellHammer y = Check.at("mark m at 41; trier a force 40 aim 0 tires 0 coins 1 stays 0;");
        y.night();
        Check.due("below it", y.reach(0, 0), 0);
        Check.due("reach(-1, 0)", y.reach(-1, 0), -1);
        Check.due("no marks", new BellHammer().reach(0, 0), -1);
    }
}
