import java.util.Arrays;

/** Terms III (an image) and promises 31 to 34: each sentence that names a boundary, on both sides of it. */
public final class EdgeImageTest {
    private static final String FAIR = "mark m at 1; trier a force 50 aim 5 tires 0 coins 99 stays 99; bell 99; tries 4; lean when all; lean when not all;";

    public static void main(String[] args) {
        image();
        higherBytes();
        lastByte();
        octet();
        onLength();
        onLastByte();
        onNights();
        onTakings();
        onRules();
        onOthers();
        onTakes();
        onRefused();
        statusOfEach();
        statusNone();
        Check.close();
    }

    private static void octets(String when, BellHammer x, int... want) {
        for (int k = 0; k < want.length; k++) {
            Check.due("octet(" + k + ") " + when, x.octet(k), want[k]);
        }
    }

    private static void image() {
        Check.sentence("III: AN IMAGE: NIGHTS, TAKINGS, RULES in force (bits), BELL, slack, price; 31: how many bytes");
        BellHammer x = new BellHammer();
        Check.due("image()", x.image(), 10);
        octets("new", x, 0, 0, 0, 0, 0, 0, 50, 20, 1, 0);
        BellHammer y = Check.at(FAIR);
        y.night();
        y.night();
        y.rule(0, false);
        y.set(0, 98);
        y.set(1, 90);
        y.set(2, 9);
        Check.due("image()", y.image(), 10);
        octets("of acts", y, Check.withCheck(0, 2, 0, 0, 8, 2, 98, 90, 9));
        Check.due("no act", y.has(13), 6);
        y.undo();
        y.image();
        octets("of acts undone", y, Check.withCheck(0, 2, 0, 0, 8, 2, 98, 90, 1));
        BellHammer six = Check.at("lean when all;".repeat(6));
        six.image();
        octets("of six rules", six, Check.withCheck(0, 0, 0, 0, 0, 63, 50, 20, 1));
    }

    private static void goesRound(int... nine) {
        int[] image = Check.withCheck(nine);
        BellHammer x = Check.at(FAIR);
        Check.due("on() of " + Arrays.toString(image), Check.on(x, image), true);
        Check.due("nights", x.has(10), 256 * nine[0] + nine[1]);
        Check.due("takings", x.has(11), 65536 * nine[2] + 256 * nine[3] + nine[4]);
        Check.due("image()", x.image(), 10);
        octets("again", x, image);
    }

    private static void higherBytes() {
        Check.sentence("III: NIGHTS (two bytes, the higher first)");
        goesRound(0, 255, 0, 0, 0, 3, 50, 20, 1);
        goesRound(1, 0, 0, 0, 0, 3, 50, 20, 1);
        goesRound(1, 255, 0, 0, 0, 3, 50, 20, 1);
        goesRound(2, 0, 0, 0, 0, 3, 50, 20, 1);
        goesRound(3, 231, 0, 0, 0, 3, 50, 20, 1);
        BellHammer x = Check.at(FAIR);
        Check.on(x, Check.withCheck(0, 255, 0, 0, 255, 3, 99, 20, 1));
        x.night();
        x.image();
        octets("one night more, four coins more", x, Check.withCheck(1, 0, 0, 1, 3, 3, 99, 20, 1));
        Check.sentence("III: TAKINGS (three bytes)");
        goesRound(3, 231, 0, 0, 255, 3, 50, 20, 1);
        goesRound(3, 231, 0, 1, 0, 3, 50, 20, 1);
        goesRound(3, 231, 0, 255, 255, 3, 50, 20, 1);
        goesRound(3, 231, 1, 0, 0, 3, 50, 20, 1);
        goesRound(3, 231, 4, 99, 224, 3, 50, 20, 1);
        Check.on(x, Check.withCheck(0, 255, 0, 255, 254, 3, 99, 20, 1));
        Check.due("73440 at most for 255", x.has(11), 65534);
        x.night();
        x.image();
        octets("over 65536", x, Check.withCheck(1, 0, 1, 0, 2, 3, 99, 20, 1));
    }

    private static void lastByte() {
        Check.sentence("III: last a byte: all ahead from 139 on, c = (3 c + it) mod 253");
        // 139, 164, 239, 211, 127, 128, 131, 190, 84, 0
        BellHammer x = new BellHammer();
        x.image();
        Check.due("of a new one", x.octet(9), 0);
        // 84 comes behind the slack of 20: a price of 2 makes 254 less 253; of 1, 0; slack 21 and price 1: 3
        x.set(2, 2);
        x.image();
        Check.due("a price of 2", x.octet(9), 1);
        x.set(2, 1);
        x.set(1, 21);
        x.image();
        Check.due("slack 21", x.octet(9), 3);
        // slack 19: 3 times 83 is 249, and 1: 250; price 3: 252; price 4: 253, which is 0
        x.set(1, 19);
        x.image();
        Check.due("slack 19", x.octet(9), 250);
        x.set(2, 3);
        x.image();
        Check.due("slack 19, price 3", x.octet(9), 252);
        x.set(2, 4);
        x.image();
        Check.due("slack 19, price 4", x.octet(9), 0);
    }

    private static void octet() {
        Check.sentence("32: Byte k of the latest image(); NONE when there is none such");
        BellHammer x = Check.at(FAIR);
        for (int k = -1; k <= 10; k++) {
            Check.due("ahead of any, octet(" + k + ")", x.octet(k), -1);
        }
        x.image();
        Check.due("octet(0)", x.octet(0), 0);
        Check.due("octet(9)", x.octet(9) >= 0, true);
        for (int k : new int[] {-1, 10, 11, Integer.MIN_VALUE, Integer.MAX_VALUE}) {
            Check.due("octet(" + k + ")", x.octet(k), -1);
        }
        int[] image = Check.withCheck(0, 0, 0, 0, 0, 3, 99, 20, 1);
        octets("of the latest", x, image);
        x.night();
        x.set(0, 5);
        octets("acts leave it", x, image);
        Check.on(x, Check.withCheck(0, 9, 0, 0, 0, 3, 9, 9, 9));
        octets("on() leaves it", x, image);
        Check.text(x, "bell 7;");
        x.fair();
        octets("fair() leaves it", x, image);
        x.image();
        octets("the next one", x, Check.withCheck(0, 0, 0, 0, 0, 0, 7, 20, 1));
    }

    private static void onLength() {
        Check.sentence("33: The tape is AN IMAGE: ten bytes");
        BellHammer x = Check.at(FAIR);
        int[] right = Check.withCheck(0, 1, 0, 1, 32, 3, 99, 90, 9);
        Check.due("none", Check.on(x), false);
        Check.due("one", Check.on(x, 0), false);
        Check.due("nine", Check.on(x, Arrays.copyOf(right, 9)), false);
        Check.due("eleven", Check.on(x, Arrays.copyOf(right, 11)), false);
        Check.due("twenty", Check.on(x, Arrays.copyOf(right, 20)), false);
        Check.due("status(5)", x.status(5), 5);
        Check.due("ten", Check.on(x, right), true);
        Check.due("status(5)", x.status(5), 5);
        // What stood on the tape ahead of it counts no more.
        Check.text(x, "bell 5; bell 6;");
        x.end(0);
        Check.due("nine, and what was there", Check.on(x, Arrays.copyOf(right, 9)), false);
    }

    private static void onLastByte() {
        Check.sentence("33: false, refused (5), when it is none: another last byte");
        BellHammer x = Check.at(FAIR);
        int[] right = Check.withCheck(0, 1, 0, 1, 32, 3, 99, 90, 9);
        int refused = 0;
        for (int k = 0; k < 10; k++) {
            for (int by : new int[] {1, 255}) {
                int[] other = right.clone();
                other[k] = (other[k] + by) & 255;
                Check.due("byte " + k + " by " + by, Check.on(x, other), false);
                refused++;
            }
        }
        // c is below 253: 0, 1, 2 are not told as 253, 254, 255
        int[] zero = {0, 0, 0, 0, 0, 0, 50, 20, 1, 253};
        Check.due("253 for 0", Check.on(x, zero), false);
        zero[9] = 0;
        Check.due("0", Check.on(x, zero), true);
        Check.due("status(5)", x.status(5), refused + 1);
    }

    private static void taken(String what, boolean want, int... nine) {
        BellHammer x = Check.at(FAIR);
        x.night();
        Check.due(what, Check.on(x, Check.withCheck(nine)), want);
        Check.due("status(5), " + what, x.status(5), want ? 0 : 1);
        Check.due("acts, " + what, x.has(13), want ? 0 : 1);
        Check.due("nights, " + what, x.has(10), want ? 256 * nine[0] + nine[1] : 1);
    }

    private static void onNights() {
        Check.sentence("33: NIGHTS 999 at most");
        taken("no nights", true, 0, 0, 0, 0, 0, 3, 50, 20, 1);
        taken("998 nights", true, 3, 230, 0, 0, 0, 3, 50, 20, 1);
        taken("999 nights", true, 3, 231, 0, 0, 0, 3, 50, 20, 1);
        taken("1000 nights", false, 3, 232, 0, 0, 0, 3, 50, 20, 1);
        taken("1024 nights", false, 4, 0, 0, 0, 0, 3, 50, 20, 1);
        taken("65535 nights", false, 255, 255, 0, 0, 0, 3, 50, 20, 1);
    }

    private static void onTakings() {
        Check.sentence("33: TAKINGS 288 for each at most");
        taken("none of none", true, 0, 0, 0, 0, 0, 3, 50, 20, 1);
        taken("1 of none", false, 0, 0, 0, 0, 1, 3, 50, 20, 1);
        taken("288 of one", true, 0, 1, 0, 1, 32, 3, 50, 20, 1);
        taken("289 of one", false, 0, 1, 0, 1, 33, 3, 50, 20, 1);
        taken("576 of two", true, 0, 2, 0, 2, 64, 3, 50, 20, 1);
        taken("577 of two", false, 0, 2, 0, 2, 65, 3, 50, 20, 1);
        taken("287712 of 999", true, 3, 231, 4, 99, 224, 3, 50, 20, 1);
        taken("287713 of 999", false, 3, 231, 4, 99, 225, 3, 50, 20, 1);
        taken("as many as three bytes can be", false, 3, 231, 255, 255, 255, 3, 50, 20, 1);
    }

    private static void onRules() {
        Check.sentence("33: RULES that there are");
        for (int rules = 0; rules <= 6; rules++) {
            for (int bits : new int[] {0, (1 << rules) - 1, 1 << rules, 128, 255}) {
                BellHammer x = Check.at("lean when all;".repeat(rules));
                boolean want = bits < 1 << rules;
                Check.due(bits + " of " + rules + " rules", Check.on(x, Check.withCheck(0, 0, 0, 0, 0, bits, 50, 20, 1)), want);
                Check.due("has(3)", x.has(3), want ? bits : (1 << rules) - 1);
            }
        }
    }

    private static void onOthers() {
        Check.sentence("33: others as in I");
        int[] least = {1, 0, 1};
        int[] most = {99, 90, 9};
        int[] has = {4, 7, 5};
        for (int what = 0; what < 3; what++) {
            for (int n : new int[] {least[what], most[what], most[what] + 1, 0, 128, 255}) {
                int[] nine = {0, 0, 0, 0, 0, 3, 50, 20, 1};
                nine[6 + what] = n;
                boolean want = n >= least[what] && n <= most[what];
                BellHammer x = Check.at(FAIR);
                int old = x.has(has[what]);
                Check.due("number " + what + ", " + n, Check.on(x, Check.withCheck(nine)), want);
                Check.due("has(" + has[what] + ")", x.has(has[what]), want ? n : old);
                Check.due("status(5)", x.status(5), want ? 0 : 1);
            }
        }
    }

    private static void onTakes() {
        Check.sentence("33: true, all is as it tells, nothing is KEPT or can be undone; The tape (it goes)");
        BellHammer x = Check.at(FAIR);
        x.night();
        x.night();
        x.set(0, 77);
        x.rule(1, false);
        Check.due("on()", Check.on(x, Check.withCheck(1, 2, 0, 3, 4, 2, 6, 7, 8)), true);
        Check.has("as it tells", x, 1, 1, 2, 2, 6, 8, 4, 7, 0, 3, 258, 772, 0, 0);
        Check.due("kept(0, 0)", x.kept(0, 0), -1);
        Check.due("reach(0, 0)", x.reach(0, 0), 0);
        Check.due("undo()", x.undo(), false);
        Check.due("status(4)", x.status(4), 1);
        Check.due("the tape went", x.end(1), false);
        Check.due("a rule by its bits", x.rule(1, false), true);
        Check.due("the bell", x.set(0, 99), 6);
        x.night();
        Check.due("night 259", x.kept(0, 0), 259);
        Check.due("acts from here on", x.has(13), 3);
        for (int i = 0; i < 3; i++) {
            x.undo();
        }
        Check.has("undone", x, 1, 1, 2, 2, 6, 8, 4, 7, 0, 3, 258, 772, 0, 0);
        Check.due("undo() at last", x.undo(), false);
    }

    private static void onRefused() {
        Check.sentence("33: false, refused (5), all staying");
        BellHammer x = Check.at(FAIR);
        x.night();
        x.set(0, 77);
        x.rule(1, false);
        Check.see(x, 0, 50);
        int ways = x.was(-1);
        x.image();
        int[] image = new int[10];
        for (int k = 0; k < 10; k++) {
            image[k] = x.octet(k);
        }
        int[][] wrong = {{3, 232, 0, 3, 4, 2, 6, 7, 8}, {0, 1, 0, 1, 33, 2, 6, 7, 8}, {0, 5, 0, 0, 4, 4, 6, 7, 8}, {0, 5, 0, 0, 4, 2, 0, 7, 8},
            {0, 5, 0, 0, 4, 2, 6, 91, 8}, {0, 5, 0, 0, 4, 2, 6, 7, 10}};
        for (int[] w : wrong) {
            Check.due("on() of " + Arrays.toString(w), Check.on(x, Check.withCheck(w)), false);
            Check.has("stays", x, 1, 1, 2, 1, 77, 1, 4, 20, 0, 3, 1, 4, 4, 3);
            Check.due("the tape went", x.end(1), false);
        }
        Check.due("status(5)", x.status(5), 6);
        octets("stays", x, image);
        Check.due("was(-1) stays", x.was(-1), ways);
        Check.due("kept(0, 2) stays", x.kept(0, 2), 4);
        Check.due("undo()", x.undo(), true);
        Check.due("undo()", x.undo(), true);
        Check.due("the bell undone", x.has(4), 99);
        x.night();
        // the fifth draw from the seed 1 on, 2035015474, by six offs
        Check.due("the seed stays", x.kept(4, 2), 2);
    }

    private static void statusOfEach() {
        Check.sentence("34: How many were refused: 0 feed(), end(); 1 fair(), see(); 2 night(); 3 rule(), set(); 4 undo(); 5 seed(), on()");
        int[] want = new int[6];
        BellHammer x = new BellHammer();
        refusals(x, want);
        x.end(-1);
        want[0]++;
        refusals(x, want);
        for (int i = 0; i < 80; i++) {
            x.feed(0, 0, 0, 0, 0);
        }
        refusals(x, want);
        x.feed(0, 0, 0, 0, 0);
        want[0]++;
        refusals(x, want);
        x.fair();
        want[1]++;
        refusals(x, want);
        x.see(0);
        want[1]++;
        refusals(x, want);
        x.rule(0, true);
        want[3]++;
        refusals(x, want);
        x.set(0, 100);
        want[3]++;
        refusals(x, want);
        x.undo();
        want[4]++;
        refusals(x, want);
        x.seed(-1);
        want[5]++;
        refusals(x, want);
        x.on();
        want[5]++;
        refusals(x, want);
        Check.on(x, Check.withCheck(3, 231, 0, 0, 0, 0, 50, 20, 1));
        refusals(x, want);
        x.night();
        want[2]++;
        refusals(x, want);
        // Answers of NONE that refuse nothing, and what is done, count for nothing.
        x.has(14);
        x.fault(2);
        x.trier(0, 0);
        x.mark(0);
        x.past(100);
        x.letter(0, 0, 0);
        x.high(0, 0, 0, true);
        x.hard(10, true);
        x.wide(0, true);
        x.leans(0, 0, 0, 0, 0);
        x.tree(0, 0);
        x.best(2);
        x.honest(2);
        x.bet(0, 1, 0);
        x.kept(0, 0);
        x.was(0);
        x.strong(0);
        x.next(true);
        x.clear(0);
        x.reach(0, 0);
        x.octet(10);
        x.status(6);
        x.set(0, 9);
        x.undo();
        x.seed(0);
        x.end(0);
        refusals(x, want);
        x.fair();
        refusals(x, want);
    }

    private static void refusals(BellHammer x, int[] want) {
        for (int what = 0; what < 6; what++) {
            Check.due("status(" + what + ")", x.status(what), want[what]);
        }
    }

    private static void statusNone() {
        Check.sentence("34: NONE for others");
        for (int what : new int[] {-1, 6, 7, Integer.MIN_VALUE, Integer.MAX_VALUE}) {
            Check.due("status(" + what + ")", new BellHammer().status(what), -1);
        }
    }
}
