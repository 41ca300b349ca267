/** Terms I (tests of rules), II (a blow) and promises 11 to 14: each sentence that names a boundary, on both sides of it. */
public final class EdgeBlowTest {
    public static void main(String[] args) {
        facts();
        signs();
        joins();
        fromTheLeftOn();
        division();
        heldSums();
        force();
        heights();
        ringsAndNear();
        high();
        hard();
        wide();
        leans();
        Check.close();
    }

    /** Whether a lady with 6 coins is leant on, 20 looking on, at her third blow, the last one 33 high, behind 4 rings. */
    private static void holds(String test, boolean want) {
        BellHammer x = Check.at("trier a force 1 aim 0 tires 0 coins 6 stays 0 lady; lean when " + test + ";");
        Check.due("fault(0) of " + test, x.fault(0), 0);
        Check.due(test, x.leans(0, 20, 2, 33, 4), want ? 1 : 0);
    }

    private static void same(String sum, String other) {
        holds(sum + "=" + other, true);
        holds(sum + "<" + other, false);
        holds(sum + ">" + other, false);
    }

    private static void facts() {
        Check.sentence("I: people who look on; how often he has struck; how high his last blow was; RINGS so far; his coins");
        same("crowd", "20");
        same("tried", "2");
        same("last", "33");
        same("rings", "4");
        same("coins", "6");
        Check.sentence("I: 1 of a lady, else 0");
        same("lady", "1");
        BellHammer x = Check.at("trier a force 1 aim 0 tires 0 coins 6 stays 0; trier b force 1 aim 0 tires 0 coins 6 stays 0 lady; lean when lady=0;");
        Check.due("no lady", x.leans(0, 0, 0, 0, 0), 1);
        Check.due("a lady", x.leans(1, 0, 0, 0, 0), 0);
        Check.sentence("I: how high his last blow of these was, 0 without");
        // 50 and 50 at a bell of 99: the rule sees 0 ahead of the first one of each night and of each trier
        BellHammer y = Check.at("trier a force 50 aim 0 tires 0 coins 9 stays 99; trier b force 40 aim 0 tires 0 coins 9 stays 99;"
            + "bell 99; tries 2; slack 10; lean when last=0;");
        y.night();
        y.night();
        int[] slack = {1, 0, 1, 0, 1, 0, 1, 0};
        for (int k = 0; k < 8; k++) {
            Check.due("kept(" + k + ", 3)", y.kept(k, 3), slack[k]);
        }
        Check.due("tree(0, 4)", y.tree(0, 4), 1000);
    }

    private static void signs() {
        Check.sentence("I: SUM SIGN SUM, SIGN < or > or =");
        holds("1<2", true);
        holds("2<2", false);
        holds("3<2", false);
        holds("1>2", false);
        holds("2>2", false);
        holds("3>2", true);
        holds("1=2", false);
        holds("2=2", true);
        holds("3=2", false);
        holds("0-1<0", true);
        holds("0>0-1", true);
        for (String fact : new String[] {"1<2", "3>2", "2=2"}) {
            holds("not " + fact, false);
            holds("not not " + fact, true);
            holds(fact + " and all", true);
            holds("all and " + fact, true);
            holds("not all or " + fact, true);
        }
        for (String fact : new String[] {"2<2", "2>2", "1=2"}) {
            holds("not " + fact, true);
            holds("all and " + fact, false);
            holds(fact + " or not all", false);
        }
        Check.sentence("I: all");
        holds("all", true);
        holds("not all", false);
    }

    private static void joins() {
        Check.sentence("I: TEST: BOTH { or BOTH }. BOTH: FACT { and FACT }. FACT: not FACT; [ TEST ]");
        String[] facts = {"not all", "all"};
        for (int i = 0; i < 8; i++) {
            boolean a = (i & 1) == 1;
            boolean b = (i & 2) == 2;
            boolean c = (i & 4) == 4;
            String f = facts[i & 1];
            String g = facts[i >> 1 & 1];
            String h = facts[i >> 2 & 1];
            holds(f + " and " + g, a && b);
            holds(f + " or " + g, a || b);
            holds(f + " or " + g + " and " + h, a || b && c);
            holds(f + " and " + g + " or " + h, a && b || c);
            holds("[" + f + " or " + g + "] and " + h, (a || b) && c);
            holds(f + " and [" + g + " or " + h + "]", a && (b || c));
            holds("not " + f + " or " + g, !a || b);
            holds("not [" + f + " or " + g + "]", !(a || b));
            holds("not not " + f + " and not " + g, a && !b);
            holds(f + " or " + g + " or " + h, a || b || c);
            holds(f + " and " + g + " and " + h, a && b && c);
        }
    }

    private static void fromTheLeftOn() {
        Check.sentence("I: All from the left on");
        same("20-3-4", "13");
        same("20-(3-4)", "21");
        same("20-3+4", "21");
        same("100/7/2", "7");
        same("100/(7/2)", "33");
        same("7*3/2", "10");
        same("7/2*3", "9");
        same("2+3*4-5", "9");
        same("(2+3)*4", "20");
        same("2*3+4*5", "26");
        Check.sentence("I: min ( SUM , SUM ) ; max ( SUM , SUM )");
        same("min(3,4)", "3");
        same("min(4,3)", "3");
        same("max(3,4)", "4");
        same("max(4,3)", "4");
        same("min(3,3)+max(3,3)", "6");
        same("min(0-3,0-4)", "0-4");
        same("max(0-3,0-4)", "0-3");
        same("max(1+2,2*2)*min(9-2,crowd/2)", "28");
    }

    private static void division() {
        Check.sentence("I: / gives the greatest whole number not above");
        same("6/2", "3");
        same("7/2", "3");
        same("8/2", "4");
        same("1/2", "0");
        same("(0-1)/2", "0-1");
        same("(0-6)/2", "0-3");
        same("(0-7)/2", "0-4");
        same("7/(0-2)", "0-4");
        same("6/(0-2)", "0-3");
        same("(0-7)/(0-2)", "3");
        same("(0-1)/9999", "0-1");
        same("1/(0-9999)", "0-1");
        same("0/5", "0");
        Check.sentence("I: by 0 it gives 0");
        same("5/0", "0");
        same("0/0", "0");
        same("(0-5)/0", "0");
        same("5/(3-3)+7", "7");
        same("crowd/(tried-2)", "0");
    }

    /** A number has four digits at most, so the one just below 10 to the 6 is told as (9999*100+99). */
    private static void heldSums() {
        Check.sentence("I: each sum above 10 to the 6 is that");
        same("999*1000+999", "(9999*100+99)");
        same("999*1000+1000", "1000*1000");
        same("999*1000+1001", "1000*1000");
        same("999*1000+9999-1", "(9999*100+99)");
        Check.sentence("I: each product above 10 to the 6 is that");
        same("1000*1000-1", "(9999*100+99)");
        same("1000*1001", "1000*1000");
        same("1000*1001-1", "(9999*100+99)");
        same("9999*9999*9999", "1000*1000");
        same("9999*9999/1000", "1000");
        same("(0-9999)*(0-9999)", "1000*1000");
        Check.sentence("I: each difference above 10 to the 6 is that");
        same("1000*1000-(0-1)", "1000*1000");
        same("1000*1000-(0-1)-1", "(9999*100+99)");
        same("999*1000-(0-1000)", "1000*1000");
        same("999*1000-(0-999)", "(9999*100+99)");
        Check.sentence("I: below -10 to the 6 likewise");
        same("0-1000*1000-1+1", "0-(9999*100+99)");
        same("0-1000*1000-9999", "0-1000*1000");
        same("(0-1000)*1001", "0-1000*1000");
        same("(0-1000)*1001+1", "0-(9999*100+99)");
        same("(0-1000)*1000+1", "0-(9999*100+99)");
        same("1000*(0-9999)/1000", "0-1000");
        same("(0-1000)*1000+(0-1)+1", "0-(9999*100+99)");
        same("0-999*1000-1000", "0-1000*1000");
        same("0-999*1000-999", "0-(9999*100+99)");
        holds("0-1000*1000<0-(9999*100+99)", true);
        holds("1000*1000>(9999*100+99)", true);
    }

    private static void force() {
        Check.sentence("II: FORCE behind k blows: force less k times what he tires, 1 at least");
        BellHammer x = Check.at("trier a force 41 aim 0 tires 20 coins 0 stays 0; trier b force 40 aim 0 tires 20 coins 0 stays 0;"
            + "trier c force 42 aim 0 tires 20 coins 0 stays 0; trier d force 1 aim 0 tires 20 coins 0 stays 0; trier e force 9 aim 0 tires 0 coins 0 stays 0;"
            + "bell 99;");
        int[][] want = {{41, 21, 1, 1}, {40, 20, 1, 1}, {42, 22, 2, 1}, {1, 1, 1, 1}, {9, 9, 9, 9}};
        for (int trier = 0; trier < 5; trier++) {
            for (int blows = 0; blows < 4; blows++) {
                Check.due("high(" + trier + ", " + blows + ", 0, false)", x.high(trier, blows, 0, false), want[trier][blows]);
            }
        }
    }

    private static void heights() {
        Check.sentence("II: HEIGHT: floor(FORCE times (100 less 10 times OFF) / 100), tight");
        BellHammer x = Check.at("trier a force 99 aim 0 tires 0 coins 0 stays 0; trier b force 9 aim 0 tires 0 coins 0 stays 0;"
            + "trier c force 10 aim 0 tires 0 coins 0 stays 0; trier d force 5 aim 0 tires 0 coins 0 stays 0; bell 99; slack 10;");
        int[] tight = {99, 89, 79, 69, 59, 49, 39, 29, 19, 9};
        for (int off = 0; off < 10; off++) {
            Check.due("99, " + off + " off", x.high(0, 0, off, false), tight[off]);
            Check.due("10, " + off + " off", x.high(2, 0, off, false), 10 - off);
        }
        Check.due("9, 9 off", x.high(1, 0, 9, false), 0);
        Check.sentence("II: slack: floor(that times (100 less slack) / 100)");
        // 5, 1 off is 4 and a half: 4, and slack 3.6; in one it would be 4.05
        Check.due("5, 1 off, slack", x.high(3, 0, 1, true), 3);
        Check.due("10 slack", x.high(2, 0, 0, true), 9);
        Check.due("9 slack", x.high(1, 0, 0, true), 8);
        x.set(1, 0);
        Check.due("slack 0", x.high(0, 0, 3, true), 69);
        x.set(1, 90);
        Check.due("99, slack 90", x.high(0, 0, 0, true), 9);
        Check.due("10, slack 90", x.high(2, 0, 0, true), 1);
        Check.due("9, slack 90", x.high(1, 0, 0, true), 0);
    }

    private static void ringsAndNear() {
        Check.sentence("II: It RINGS, if HEIGHT is not below the BELL (and is the BELL's then)");
        BellHammer x = Check.at("trier a force 50 aim 0 tires 0 coins 1 stays 0; near 2; comes 9 5 1;");
        int[] bells = {49, 50, 51, 52, 53, 99, 1};
        int[] heights = {49, 50, 50, 50, 50, 50, 1};
        int[] rings = {1000, 1000, 0, 0, 0, 0, 1000};
        int[] people = {9000, 9000, 5000, 5000, 1000, 1000, 9000};
        for (int i = 0; i < bells.length; i++) {
            x.set(0, bells[i]);
            Check.due("high, bell " + bells[i], x.high(0, 0, 0, false), heights[i]);
            Check.due("tree(0, 0), bell " + bells[i], x.tree(0, 0), rings[i]);
        }
        Check.sentence("II: NEAR, if it is below, by near at most; else a MISS");
        for (int i = 0; i < bells.length; i++) {
            x.set(0, bells[i]);
            Check.due("people, bell " + bells[i], x.tree(0, 5), people[i]);
        }
        BellHammer none = Check.at("trier a force 49 aim 0 tires 0 coins 1 stays 0; near 0; comes 9 5 1;");
        Check.due("near 0, below by 1", none.tree(0, 5), 1000);
        none.set(0, 49);
        Check.due("near 0, a ring", none.tree(0, 5), 9000);
        BellHammer wide = Check.at("trier a force 50 aim 0 tires 0 coins 1 stays 0; near 20; comes 9 5 1; bell 70;");
        Check.due("near 20, below by 20", wide.tree(0, 5), 5000);
        wide.set(0, 71);
        Check.due("near 20, below by 21", wide.tree(0, 5), 1000);
    }

    private static void high() {
        Check.sentence("11: behind so many (0 .. 3), OFF (0 .. 9, his aim counts for nothing): the BELL's when it RINGS");
        BellHammer x = Check.at("trier a force 60 aim 0 tires 10 coins 0 stays 0; trier b force 99 aim 5 tires 1 coins 9 stays 0; bell 50; slack 50; tries 1;");
        Check.due("0 blows", x.high(0, 0, 0, false), 50);
        Check.due("0 blows, 1 off", x.high(0, 0, 1, false), 50);
        Check.due("0 blows, 2 off", x.high(0, 0, 2, false), 48);
        Check.due("0 blows, 9 off", x.high(0, 0, 9, false), 6);
        Check.due("3 blows", x.high(0, 3, 0, false), 30);
        Check.due("3 blows, 9 off", x.high(0, 3, 9, false), 3);
        Check.due("3 blows, slack", x.high(0, 3, 0, true), 15);
        Check.due("the last trier", x.high(1, 3, 5, true), 24);
        Check.sentence("11: NONE when something can't be");
        int[][] none = {{-1, 0, 0}, {2, 0, 0}, {0, -1, 0}, {0, 4, 0}, {0, 0, -1}, {0, 0, 10}, {Integer.MAX_VALUE, 0, 0}, {Integer.MIN_VALUE, 0, 0},
            {0, Integer.MAX_VALUE, 0}, {0, Integer.MIN_VALUE, 0}, {0, 0, Integer.MAX_VALUE}, {0, 0, Integer.MIN_VALUE}};
        for (int[] n : none) {
            Check.due("high(" + n[0] + ", " + n[1] + ", " + n[2] + ", false)", x.high(n[0], n[1], n[2], false), -1);
            Check.due("high(" + n[0] + ", " + n[1] + ", " + n[2] + ", true)", x.high(n[0], n[1], n[2], true), -1);
        }
        Check.due("no triers", new BellHammer().high(0, 0, 0, false), -1);
    }

    private static BellHammer by(int bell, int slack) {
        return Check.at("bell " + bell + "; slack " + slack + ";");
    }

    private static void hard() {
        Check.sentence("12: The least FORCE (1 .. 99) that RINGS, OFF (0 .. 9)");
        Check.due("a bell of 1", by(1, 20).hard(0, false), 1);
        Check.due("a bell of 1, 9 off", by(1, 20).hard(9, false), 10);
        Check.due("a bell of 9, 9 off", by(9, 20).hard(9, false), 90);
        Check.due("a bell of 99", by(99, 20).hard(0, false), 99);
        Check.due("a bell of 99, slack 0", by(99, 0).hard(0, true), 99);
        Check.due("a bell of 9, slack 90", by(9, 90).hard(0, true), 90);
        Check.sentence("12: NONE when none does, or it can't be");
        Check.due("a bell of 99, 1 off", by(99, 20).hard(1, false), -1);
        Check.due("a bell of 89, 1 off", by(89, 20).hard(1, false), 99);
        Check.due("a bell of 90, 1 off", by(90, 20).hard(1, false), -1);
        Check.due("a bell of 10, 9 off", by(10, 20).hard(9, false), -1);
        Check.due("a bell of 10, slack 90", by(10, 90).hard(0, true), -1);
        Check.due("a bell of 98, slack 1", by(98, 1).hard(0, true), 99);
        Check.due("a bell of 99, slack 1", by(99, 1).hard(0, true), -1);
        for (int off : new int[] {-1, 10, 11, Integer.MIN_VALUE, Integer.MAX_VALUE}) {
            Check.due("hard(" + off + ", false)", by(1, 0).hard(off, false), -1);
            Check.due("hard(" + off + ", true)", by(1, 0).hard(off, true), -1);
        }
    }

    private static void wide() {
        Check.sentence("13: The greatest OFF (0 .. 9) by which a FORCE (1 .. 99) RINGS");
        Check.due("99 at a bell of 9", by(9, 20).wide(99, false), 9);
        Check.due("99 at a bell of 10", by(10, 20).wide(99, false), 8);
        Check.due("1 at a bell of 1", by(1, 20).wide(1, false), 0);
        Check.due("10 at a bell of 1", by(1, 20).wide(10, false), 9);
        Check.due("9 at a bell of 1", by(1, 20).wide(9, false), 8);
        Check.due("99 at a bell of 99", by(99, 20).wide(99, false), 0);
        Check.due("99 at a bell of 9, slack 90", by(9, 90).wide(99, true), 0);
        Check.due("99 at a bell of 1, slack 90", by(1, 90).wide(99, true), 8);
        Check.sentence("13: NONE when none does, or it can't be");
        Check.due("49 at a bell of 50", by(50, 20).wide(49, false), -1);
        Check.due("50 at a bell of 50", by(50, 20).wide(50, false), 0);
        Check.due("62 at a bell of 50, slack 20", by(50, 20).wide(62, true), -1);
        Check.due("63 at a bell of 50, slack 20", by(50, 20).wide(63, true), 0);
        Check.due("1 at a bell of 1, slack 1", by(1, 1).wide(1, true), -1);
        for (int force : new int[] {0, -1, 100, 101, 9999, Integer.MIN_VALUE, Integer.MAX_VALUE}) {
            Check.due("wide(" + force + ", false)", by(1, 0).wide(force, false), -1);
            Check.due("wide(" + force + ", true)", by(1, 0).wide(force, true), -1);
        }
    }

    private static void leans() {
        Check.sentence("14: with this crowd (0 .. 999), tried (0 .. 3), last (0 .. 99), RINGS (0 .. 99)");
        BellHammer x = Check.at("trier a force 1 aim 0 tires 0 coins 5 stays 0; trier b force 1 aim 0 tires 0 coins 7 stays 0 lady;"
            + "lean when crowd=999; lean when tried=3; lean when last=99; lean when rings=99; lean when coins=7 and tried=2;");
        int[][] ones = {{0, 0, 0, 0, 0}, {0, 998, 2, 98, 98}, {0, 999, 0, 0, 0}, {0, 0, 3, 0, 0}, {0, 0, 0, 99, 0}, {0, 0, 0, 0, 99}};
        int[] leans = {0, 0, 1, 1, 1, 1};
        for (int i = 0; i < ones.length; i++) {
            int[] n = ones[i];
            Check.due("leans " + i, x.leans(n[0], n[1], n[2], n[3], n[4]), leans[i]);
        }
        Check.sentence("14: his coins as told");
        Check.due("two blows behind", x.leans(1, 0, 2, 0, 0), 1);
        Check.due("the other one's", x.leans(0, 0, 2, 0, 0), 0);
        Check.sentence("14: by the RULES in force");
        x.rule(0, false);
        Check.due("not in force", x.leans(0, 999, 0, 0, 0), 0);
        Check.due("another one is", x.leans(0, 999, 3, 0, 0), 1);
        x.rule(0, true);
        Check.due("in force again", x.leans(0, 999, 0, 0, 0), 1);
        Check.due("no rules", Check.at("trier a force 1 aim 0 tires 0 coins 5 stays 0;").leans(0, 999, 3, 99, 99), 0);
        Check.sentence("14: NONE when something can't be");
        int[] most = {1, 999, 3, 99, 99};
        for (int i = 0; i < 5; i++) {
            for (int wrong : new int[] {-1, most[i] + 1, Integer.MIN_VALUE, Integer.MAX_VALUE}) {
                int[] n = {0, 0, 0, 0, 0};
                n[i] = wrong;
                Check.due("number " + i + ", " + wrong, x.leans(n[0], n[1], n[2], n[3], n[4]), -1);
            }
        }
        Check.due("no triers", new BellHammer().leans(0, 0, 0, 0, 0), -1);
    }
}
