/** Terms II (a turn), III (trees, to bet) and promises 15 to 18: each sentence that names a boundary, on both sides of it. */
public final class EdgeTreeTest {
    public static void main(String[] args) {
        tries();
        coins();
        lastRang();
        stays();
        treeBegins();
        treeFloors();
        treeNumbers();
        leansAtAll();
        treeNone();
        bestOfLikeOnes();
        bestExactly();
        bestEdges();
        bestOfManyStates();
        bestOfUnlikeStates();
        honest();
        honestExactly();
        bet();
        Check.close();
    }

    private static void blows(String text, int fewest, int most) {
        BellHammer x = Check.at(text);
        Check.due("fewest of " + text, x.tree(0, 2), fewest);
        Check.due("most of " + text, x.tree(0, 3), most);
        Check.due("leaves of " + text, fewest != most || x.tree(0, 1) == 1000 * fewest * x.has(5), true);
        int paid = x.night();
        Check.due("night of " + text, paid >= fewest * x.has(5) && paid <= most * x.has(5), true);
        Check.due("blows of the night of " + text, x.has(12) * x.has(5), paid);
    }

    private static void tries() {
        Check.sentence("II: as long as he has struck fewer times than tries");
        for (int tries = 1; tries <= 4; tries++) {
            blows("trier a force 40 aim 0 tires 0 coins 99 stays 99; tries " + tries + ";", tries, tries);
        }
    }

    private static void coins() {
        Check.sentence("II: has coins for the price");
        int[] coins = {0, 2, 3, 5, 6, 8, 9, 11, 12, 99};
        int[] blows = {0, 0, 1, 1, 2, 2, 3, 3, 4, 4};
        for (int i = 0; i < coins.length; i++) {
            blows("trier a force 40 aim 0 tires 0 coins " + coins[i] + " stays 99; tries 4; price 3;", blows[i], blows[i]);
        }
        blows("trier a force 40 aim 0 tires 0 coins 8 stays 99; tries 4; price 9;", 0, 0);
        blows("trier a force 40 aim 0 tires 0 coins 9 stays 99; tries 4; price 9;", 1, 1);
        blows("trier a force 40 aim 0 tires 0 coins 1 stays 99; tries 4; price 1;", 1, 1);
        blows("trier a force 40 aim 0 tires 0 coins 0 stays 99; tries 4; price 1;", 0, 0);
    }

    private static void lastRang() {
        Check.sentence("II: (behind the first blow) his last one did not RING");
        blows("trier a force 50 aim 0 tires 0 coins 99 stays 99; tries 4;", 1, 1);
        blows("trier a force 49 aim 0 tires 0 coins 99 stays 99; tries 4;", 4, 4);
        blows("trier a force 99 aim 0 tires 0 coins 99 stays 99; tries 4;", 1, 1);
        // slack at first, then it rings
        blows("trier a force 50 aim 0 tires 0 coins 99 stays 99; tries 4; lean when tried=0;", 2, 2);
        blows("trier a force 50 aim 0 tires 0 coins 99 stays 99; tries 4; lean when tried<2;", 3, 3);
        blows("trier a force 50 aim 1 tires 0 coins 99 stays 99; tries 4;", 1, 4);
    }

    private static void stays() {
        Check.sentence("II: and was not below the BELL by more than he stays");
        blows("trier a force 40 aim 0 tires 0 coins 99 stays 10; tries 4;", 4, 4);
        blows("trier a force 40 aim 0 tires 0 coins 99 stays 9; tries 4;", 1, 1);
        blows("trier a force 49 aim 0 tires 0 coins 99 stays 1; tries 4;", 4, 4);
        blows("trier a force 49 aim 0 tires 0 coins 99 stays 0; tries 4;", 1, 1);
        // 40, 38, 36 at a bell of 50: he goes behind the third one
        blows("trier a force 40 aim 0 tires 2 coins 99 stays 13; tries 4;", 3, 3);
        blows("trier a force 40 aim 0 tires 2 coins 99 stays 14; tries 4;", 4, 4);
        blows("trier a force 1 aim 0 tires 0 coins 99 stays 98; tries 4; bell 99;", 4, 4);
        blows("trier a force 1 aim 0 tires 0 coins 99 stays 97; tries 4; bell 99;", 1, 1);
        // 0 high at a bell of 99
        blows("trier a force 1 aim 0 tires 0 coins 99 stays 99; tries 4; bell 99; lean when all;", 4, 4);
        blows("trier a force 1 aim 0 tires 0 coins 99 stays 98; tries 4; bell 99; lean when all;", 1, 1);
    }

    private static void tree(BellHammer x, int trier, int... want) {
        for (int what = 0; what < want.length; what++) {
            Check.due("tree(" + trier + ", " + what + ")", x.tree(trier, what), want[what]);
        }
    }

    private static void treeBegins() {
        Check.sentence("III: from the crowd as told, no RINGS, his coins as told");
        BellHammer x = Check.at("trier a force 50 aim 0 tires 0 coins 1 stays 0; trier b force 49 aim 0 tires 0 coins 3 stays 5; crowd 99; comes 9 1 0;"
            + "slack 10; lean when rings>0; lean when crowd=108; lean when coins<3 and lady=0 and tried=0;");
        tree(x, 0, 0, 1000, 1, 1, 1000, 99000);
        tree(x, 1, 0, 3000, 3, 3, 0, 102000);
        Check.due("rings=0", Check.at("trier a force 9 aim 0 tires 0 coins 1 stays 0; lean when rings=0;").tree(0, 4), 1000);
        Check.due("last=0", Check.at("trier a force 9 aim 0 tires 0 coins 1 stays 0; lean when last=0;").tree(0, 4), 1000);
        Check.due("lady=1", Check.at("trier a force 9 aim 0 tires 0 coins 1 stays 0 lady; lean when lady=1;").tree(0, 4), 1000);
        x.rule(2, false);
        // a rings in the night, and b is leant on; in his tree he is not
        x.night();
        Check.due("b in the night", x.kept(1, 3), 1);
        tree(x, 0, 1000, 1000, 1, 1, 0, 108000);
        tree(x, 1, 0, 3000, 3, 3, 0, 102000);
    }

    private static void treeFloors() {
        Check.sentence("III: All exactly, in thousandths (floor) where so told");
        // one blow of a force of 50 with 1 to 6 offs, a bell of 50: the first off alone rings
        int[] one = {1000, 500, 333, 250, 200, 166};
        int[] others = {0, 500, 666, 750, 800, 833};
        for (int aim = 0; aim <= 5; aim++) {
            BellHammer x = Check.at("trier a force 50 aim " + aim + " tires 0 coins 99 stays 99; tries 1; comes 1 0 0;");
            tree(x, 0, one[aim], 1000, 1, 1, 0, one[aim]);
            BellHammer y = Check.at("trier a force 50 aim " + aim + " tires 0 coins 99 stays 99; tries 2; comes 0 0 0;");
            Check.due("two tries, aim " + aim, y.tree(0, 1), 1000 + others[aim]);
        }
        // 1 less (5/6) to the 4 is 671/1296; 1 + 5/6 + 25/36 + 125/216 is 671/216
        BellHammer x = Check.at("trier a force 50 aim 5 tires 0 coins 99 stays 99; tries 4; near 0; comes 1 0 0;");
        tree(x, 0, 517, 3106, 1, 4, 0, 517);
        x.set(2, 9);
        // nine coins each: 6039/216 is 27958 thousandths and a third
        tree(x, 0, 517, 27958, 1, 4, 0, 517);
        // slack at first and thrice, then 48 rings by half of the offs, 50 by a fifth: exact, and no thousandth less
        String late = " coins 99 stays 99; tries 4; comes 1 0 0; near 0; slack 50; lean when tried<3;";
        tree(Check.at("trier a force 60 aim 5 tires 0" + late + "bell 48;"), 0, 500, 4000, 4, 4, 1000, 500);
        tree(Check.at("trier a force 50 aim 4 tires 0" + late), 0, 200, 4000, 4, 4, 1000, 200);
        // 1 less (2/3) to the 4 is 65/81; 1 + 2/3 + 4/9 + 8/27 is 65/27
        BellHammer y = Check.at("trier a force 50 aim 2 tires 0 coins 99 stays 99; tries 4; near 0; comes 1 0 0;");
        tree(y, 0, 802, 2407, 1, 4, 0, 802);
    }

    private static void treeNumbers() {
        Check.sentence("15: RINGS (what 0), LEAVES (1), fewest, most BLOWS (2, 3), leans at all (4), the mean crowd behind it (5)");
        // 50, 45, 40 at a bell of 50, slack 20: 40, 36, 32; he is leant on behind 45 alone, and goes behind 32 to 39
        BellHammer x = Check.at("trier a force 50 aim 2 tires 0 coins 9 stays 10; near 5; tries 3; price 2; crowd 4; comes 6 3 1; lean when last=45;");
        // behind 45: slack 40 goes on, 36 and 32 do not; behind 40: as at first
        // rings: 1/3; 1/3 (40) * 1/3; third blows: behind 45, 40: 1/9 * 1/3 = 1/27 * 1; behind 40, 45: 1/9 slack, none; behind 40, 40: 1/9 * 1/3
        // 9/27 + 3/27 + 1/27 + 1/27 = 14/27; blows 1 + 2/3 + (1/9 + 1/9 + 1/9) = 2
        // leans: 45 first 1/3, or 40 and 45 1/9
        // people: first 10/3; second 1/3 * (1) + 1/3 * 10/3; third 1/9 * 10/3 + 1/9 * 1 + 1/9 * 10/3
        // = 90/27 + 9/27 + 30/27 + 10/27 + 3/27 + 10/27 = 152/27, and 4
        tree(x, 0, 518, 4000, 1, 3, 444, 9629);
    }

    private static void leansAtAll() {
        Check.sentence("15: how likely it is that the showman leans at all");
        String one = "trier a force 50 aim 1 tires 0 coins 9 stays 99; tries 4; slack 50;";
        Check.due("at each blow", Check.at(one + "lean when all;").tree(0, 4), 1000);
        Check.due("at none", Check.at(one + "lean when not all;").tree(0, 4), 0);
        Check.due("at the second one", Check.at(one + "lean when tried=1;").tree(0, 4), 500);
        Check.due("from the second one on", Check.at(one + "lean when tried>0;").tree(0, 4), 500);
        Check.due("at the last one", Check.at(one + "lean when tried=3;").tree(0, 4), 125);
        Check.due("at a fifth one", Check.at(one + "lean when tried=4;").tree(0, 4), 0);
        Check.due("by either rule", Check.at(one + "lean when tried=1; lean when tried=2;").tree(0, 4), 500);
        Check.due("slack 0 is leaning too", Check.at(one + "slack 0; lean when all;").tree(0, 4), 1000);
        Check.due("no blow", Check.at("trier a force 50 aim 1 tires 0 coins 0 stays 99; lean when all;").tree(0, 4), 0);
    }

    private static void treeNone() {
        Check.sentence("15: NONE when there is none such, or for others");
        BellHammer x = Check.at("trier a force 50 aim 0 tires 0 coins 9 stays 9; trier b force 40 aim 0 tires 0 coins 9 stays 9;");
        Check.due("tree(1, 5)", x.tree(1, 5), 0);
        for (int trier : new int[] {-1, 2, 8, Integer.MIN_VALUE, Integer.MAX_VALUE}) {
            for (int what = 0; what < 6; what++) {
                Check.due("tree(" + trier + ", " + what + ")", x.tree(trier, what), -1);
            }
        }
        for (int what : new int[] {-1, 6, 7, Integer.MIN_VALUE, Integer.MAX_VALUE}) {
            Check.due("tree(0, " + what + ")", x.tree(0, what), -1);
        }
        Check.due("no triers", new BellHammer().tree(0, 0), -1);
    }

    /** He strikes once when tight, three times when the first blow is slack. */
    private static final String ONE = "trier a force 50 aim 0 tires 0 coins 9 stays 50; slack 50;";

    private static void bestOfLikeOnes() {
        Check.sentence("III: BEST: of like ones the least bits");
        Check.due("all alike", Check.at(ONE + "lean when not all; lean when tried=3; lean when lady=1;").best(0), 0);
        Check.due("the first of two", Check.at(ONE + "lean when all; lean when all;").best(0), 1);
        Check.due("the second one", Check.at(ONE + "lean when not all; lean when all; lean when all;").best(0), 2);
        Check.due("two together or the third", Check.at(ONE + "lean when tried=0; lean when tried>0; lean when all;").best(0), 3);
        Check.due("the first two, not the last two", Check.at(ONE + "lean when tried=0; lean when tried>0; lean when tried=0;").best(0), 3);
        Check.due("leaning makes less", Check.at("trier a force 49 aim 0 tires 0 coins 9 stays 1; slack 50; lean when all;").best(0), 0);
    }

    private static void bestExactly() {
        Check.sentence("III: are together most (as fractions; compared exactly)");
        // a: 80, 72, 64, 56 ring, 48 goes on: a fifth; slack 60, 54 ring, 48, 42, 36 go on: three fifths
        // b: 60, 54 ring, 48 goes on, 42 does not: a fourth; slack 45, 40, 36, 31: none goes on
        // tight 156/125 and 85/64 are 2.576125; the third one slack 158/125 and 84/64 are 2.5765
        BellHammer x = Check.at("trier a force 80 aim 4 tires 0 coins 9 stays 14; trier b force 60 aim 3 tires 0 coins 9 stays 2; slack 25; tries 4;"
            + "lean when tried=2;");
        Check.due("best(0)", x.best(0), 1);
        Check.due("best(1)", x.best(1), 2576);
        Check.due("a slack", x.tree(0, 1), 1264);
        Check.due("b slack", x.tree(1, 1), 1312);
        x.rule(0, false);
        Check.due("a tight", x.tree(0, 1), 1248);
        Check.due("b tight", x.tree(1, 1), 1328);
        Check.due("best(0), whatever is in force", x.best(0), 1);
        // thirds: 5/3 and 5/3 and 5/3 are 5, not three times 1666
        String third = " force 50 aim 2 tires 0 coins 9 stays 99;";
        Check.due("three thirds", Check.at("trier a" + third + "trier b" + third + "trier c" + third + "tries 2;").best(1), 5000);
        Check.due("two thirds", Check.at("trier a" + third + "trier b" + third + "tries 2;").best(1), 3333);
    }

    private static void bestEdges() {
        Check.sentence("16: BEST: RULES as bits (what 0), LEAVES of all together, in thousandths (1)");
        BellHammer none = new BellHammer();
        Check.due("nobody, best(0)", none.best(0), 0);
        Check.due("nobody, best(1)", none.best(1), 0);
        Check.due("no rules", Check.at(ONE).best(0), 0);
        Check.due("no rules", Check.at(ONE).best(1), 1000);
        Check.due("rules, nobody", Check.at("lean when all;").best(0), 0);
        String never = "lean when not all;";
        BellHammer six = Check.at(ONE + never.repeat(5) + "lean when all;");
        Check.due("the sixth rule", six.best(0), 32);
        Check.due("the sixth rule", six.best(1), 3000);
        Check.due("has(3) stays", six.has(3), 63);
        BellHammer all = Check.at("trier a force 50 aim 0 tires 0 coins 9 stays 50; slack 50; tries 4; lean when tried=0; lean when tried=1; lean when tried=2;");
        // leant on at all of the first three blows he has four
        Check.due("three rules of three", all.best(0), 7);
        Check.due("three rules of three", all.best(1), 4000);
        Check.sentence("III: BEST, from the crowd as told, no RINGS, his coins as told");
        // leant on at first he strikes twice, at the second one too, thrice
        Check.due("at first", Check.at(ONE + "crowd 7; lean when rings=0 and last=0 and lady=0 and coins=9 and crowd=7;").best(1), 2000);
        Check.due("a coin less", Check.at(ONE + "lean when tried=0 or coins=8;").best(1), 3000);
        Check.due("a coin less, dearer", Check.at(ONE + "price 2; lean when tried=0 or coins=7;").best(1), 6000);
        Check.due("how high the last one was", Check.at(ONE + "lean when last=0 or last=25;").best(1), 3000);
        Check.due("a lady", Check.at("trier a force 50 aim 0 tires 0 coins 9 stays 50 lady; slack 50; lean when lady=1;").best(0), 1);
        // 62 rings, 55 does not: tight 7/4; behind a blow that was near (or a miss) one comes (or three), and he is leant on once
        String people = "trier a force 62 aim 1 tires 0 coins 9 stays 50; bell 60; slack 10; comes 9 1 3; lean when crowd=";
        Check.due("one came, near", Check.at(people + "1; near 5;").best(1), 2000);
        Check.due("one came, near", Check.at(people + "1; near 5;").best(0), 1);
        Check.due("none came, near", Check.at(people + "3; near 5;").best(1), 1750);
        Check.due("three came, a miss", Check.at(people + "3; near 4;").best(1), 2000);
        Check.due("one came, a miss", Check.at(people + "1; near 4;").best(0), 0);
        Check.sentence("16: LEAVES of all together, in thousandths (1), at another price");
        all.set(2, 9);
        Check.due("coins for one blow", all.best(0), 0);
        Check.due("coins for one blow", all.best(1), 9000);
        Check.due("eight at nine coins", Check.at("tries 4; price 9; " + eight()).best(1), 288000);
        Check.sentence("16: NONE for others");
        for (int what : new int[] {-1, 2, 3, Integer.MIN_VALUE, Integer.MAX_VALUE}) {
            Check.due("best(" + what + ")", six.best(what), -1);
        }
    }

    private static String eight() {
        StringBuilder s = new StringBuilder();
        for (char c = 'a'; c <= 'h'; c++) {
            s.append("trier t").append(c).append(" force 40 aim 5 tires 20 coins 99 stays 99;");
        }
        return s.toString();
    }

    /** Six offs, the last blow slack behind some and tight behind others, so that no two ways to stand may be taken for one. */
    private static void bestOfManyStates() {
        Check.sentence("III: BEST by his TREE: aim 5, last blows slack and tight");
        String[] rules = {"lean when tried=1 and last>60; lean when tried=2 and last<52; lean when tried=3 and last-last/2*2=1;",
            "lean when tried=0; lean when tried=1 and last>50; lean when tried=2 and crowd-crowd/2*2=1;",
            "lean when crowd*3+last>70; lean when last-last/3*3=1 and tried>0; lean when crowd=tried;"};
        for (String rule : rules) {
            for (int aim = 3; aim <= 5; aim++) {
                String text = "trier a force 79 aim " + aim + " tires 1 coins 9 stays 28; bell 66; slack 17; near 9; tries 4; comes 0 1 3;" + rule;
                int bits = 0;
                int most = -1;
                for (int set = 0; set < 8; set++) {
                    BellHammer x = Check.at(text);
                    for (int r = 0; r < 3; r++) {
                        if ((set >> r & 1) == 0) {
                            x.rule(r, false);
                        }
                    }
                    // one trier with a whole number of 216ths or fewer: thousandths tell all of them apart
                    if (x.tree(0, 1) > most) {
                        most = x.tree(0, 1);
                        bits = set;
                    }
                }
                Check.due("best(0) of " + text, Check.at(text).best(0), bits);
                Check.due("best(1) of " + text, Check.at(text).best(1), most);
            }
        }
    }

    /**
     * A bell of 55, blows of 60, 54, 48, 42; the first one is slack, near by off 0 alone (48). The second one is slack behind 43 (off 1),
     * and 21 then by its off 5; the third one is slack behind 21, and 19 by its off 5: there alone he does not stay.
     */
    private static void bestOfUnlikeStates() {
        Check.sentence("III: BEST by his TREE: the last blow by off 5, slack, is not that by off 0, tight, behind one more that was near");
        BellHammer x = Check.at("trier a force 60 aim 5 tires 6 coins 99 stays 34; bell 55; slack 20; near 7; tries 4;"
            + "lean when tried=0 or tried=1 and last=43 or tried=2 and last=21;");
        // 4 blows, but for one of 216 ways
        Check.due("tree(0, 1)", x.tree(0, 1), 3995);
        Check.due("best(1)", x.best(1), 3995);
        Check.due("best(0)", x.best(0), 1);
        x.rule(0, false);
        // tight: the first one rings by a sixth, none behind it
        Check.due("tree(0, 1), tight", x.tree(0, 1), 3500);
    }

    private static void honest() {
        Check.sentence("III: HONEST: a BELL (1 .. 99), no RULE in force, by which they are most; of like ones the lowest");
        BellHammer nobody = new BellHammer();
        Check.due("nobody", nobody.honest(0), 1);
        Check.due("nobody", nobody.honest(1), 0);
        BellHammer x = Check.at("trier a force 99 aim 0 tires 0 coins 9 stays 99;");
        Check.due("he always rings", x.honest(0), 1);
        BellHammer y = Check.at("trier a force 98 aim 0 tires 0 coins 9 stays 99;");
        Check.due("one bell alone", y.honest(0), 99);
        Check.due("one bell alone", y.honest(1), 3000);
        BellHammer z = Check.at("trier a force 1 aim 0 tires 0 coins 9 stays 1;");
        Check.due("the bell of 2 alone", z.honest(0), 2);
        BellHammer w = Check.at("trier a force 40 aim 0 tires 0 coins 9 stays 5; bell 9; lean when all; slack 90;");
        Check.due("41 to 45 alike", w.honest(0), 41);
        Check.due("41 to 45 alike", w.honest(1), 3000);
        Check.due("best(0) between", w.best(0), 1);
        Check.due("41 to 45 alike, behind best()", w.honest(0), 41);
        // 40, 35, 30: at 41 to 45 he stays behind the second one and not behind the third; above and below it is less
        BellHammer v = Check.at("trier a force 40 aim 0 tires 5 coins 9 stays 10; tries 4;");
        Check.due("three blows", v.honest(0), 41);
        Check.due("three blows", v.honest(1), 3000);
        Check.sentence("17: HONEST: the BELL (what 0), LEAVES of all together, in thousandths (1)");
        Check.due("nothing is changed: the bell", w.has(4), 9);
        Check.due("nothing is changed: the rules", w.has(3), 1);
        Check.due("nothing is changed: acts", w.has(13), 0);
        w.set(2, 9);
        Check.due("coins for one", w.honest(0), 1);
        Check.due("coins for one", w.honest(1), 9000);
        Check.sentence("17: NONE for others");
        for (int what : new int[] {-1, 2, 3, Integer.MIN_VALUE, Integer.MAX_VALUE}) {
            Check.due("honest(" + what + ")", w.honest(what), -1);
        }
    }

    private static void honestExactly() {
        Check.sentence("III: HONEST: by which they are most (compared exactly)");
        BellHammer x = Check.at("trier a force 41 aim 4 tires 0 coins 9 stays 13; trier b force 37 aim 5 tires 0 coins 9 stays 17;"
            + "trier c force 22 aim 5 tires 0 coins 9 stays 12; tries 4;");
        // bell 23: 1 and 40/27 and 4 are 6.48148; bell 34: 272/125 and 671/216 and 259/216 are 6.48155
        Check.due("honest(0)", x.honest(0), 34);
        Check.due("honest(1)", x.honest(1), 6481);
        x.set(0, 23);
        Check.due("a at 23", x.tree(0, 1), 1000);
        Check.due("b at 23", x.tree(1, 1), 1481);
        Check.due("c at 23", x.tree(2, 1), 4000);
        x.set(0, 34);
        Check.due("a at 34", x.tree(0, 1), 2176);
        Check.due("b at 34", x.tree(1, 1), 3106);
        Check.due("c at 34", x.tree(2, 1), 1199);
    }

    private static void bet() {
        Check.sentence("III: TO BET: one blow each, tight, the first of their time: the first one's HEIGHT (no BELL counts) is above the other's, is the same");
        BellHammer x = Check.at("trier a force 60 aim 2 tires 9 coins 0 stays 0; trier b force 54 aim 1 tires 0 coins 0 stays 0; trier c force 54 aim 0 tires 20 coins 0 stays 0;"
            + "trier d force 53 aim 0 tires 0 coins 0 stays 0; bell 1; slack 90; lean when all;");
        // 60, 54, 48 and 54, 48 and 54 and 53
        int[][] want = {{0, 1, 500, 333}, {1, 0, 166, 333}, {0, 2, 333, 333}, {2, 0, 333, 333}, {1, 2, 0, 500}, {2, 1, 500, 500}, {2, 3, 1000, 0},
            {3, 2, 0, 0}, {3, 1, 500, 0}, {0, 3, 666, 0}};
        for (int[] w : want) {
            Check.due("bet(" + w[0] + ", " + w[1] + ", 0)", x.bet(w[0], w[1], 0), w[2]);
            Check.due("bet(" + w[0] + ", " + w[1] + ", 1)", x.bet(w[0], w[1], 1), w[3]);
        }
        // 36 pairs: of offs alike six are alike, fifteen higher
        BellHammer y = Check.at("trier a force 90 aim 5 tires 0 coins 0 stays 0; trier b force 90 aim 5 tires 0 coins 0 stays 0;");
        Check.due("6 of 36", y.bet(0, 1, 1), 166);
        Check.due("15 of 36", y.bet(0, 1, 0), 416);
        Check.sentence("18: NONE when there are no such two, it is one, or for others");
        for (int n : new int[] {-1, 4, 8, Integer.MIN_VALUE, Integer.MAX_VALUE}) {
            Check.due("bet(" + n + ", 0, 0)", x.bet(n, 0, 0), -1);
            Check.due("bet(0, " + n + ", 0)", x.bet(0, n, 0), -1);
            Check.due("bet(" + n + ", " + n + ", 1)", x.bet(n, n, 1), -1);
        }
        for (int n = 0; n < 4; n++) {
            Check.due("bet(" + n + ", " + n + ", 0)", x.bet(n, n, 0), -1);
            Check.due("bet(" + n + ", " + n + ", 1)", x.bet(n, n, 1), -1);
        }
        for (int what : new int[] {-1, 2, 3, Integer.MIN_VALUE, Integer.MAX_VALUE}) {
            Check.due("bet(0, 1, " + what + ")", x.bet(0, 1, what), -1);
        }
        Check.due("no triers", new BellHammer().bet(0, 1, 0), -1);
    }
}
