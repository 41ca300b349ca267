import java.util.Random;

/** Promises 15 to 18: tree, best, honest, bet. */
public final class TreeTest {
    public static void main(String[] args) {
        smallTree();
        treeEdges();
        leaningTree();
        best();
        honest();
        bet();
        widestTree();
        bestByTheModel();
        Check.close();
    }

    private static void tree(BellHammer x, int trier, int... want) {
        for (int what = 0; what < want.length; what++) {
            Check.due("tree(" + trier + ", " + what + ")", x.tree(trier, what), want[what]);
        }
    }

    /** Heights 50, 45, 40 at a bell of 50: a third rings, 45 is near, 40 goes on as well. */
    private static void smallTree() {
        BellHammer x = Check.at("trier a force 50 aim 2 tires 0 coins 9 stays 10; bell 50; near 5; tries 2; price 2; crowd 4; comes 6 3 1;");
        // rings 1/3 + 2/3 * 1/3 = 5/9; blows 1 + 2/3; people 4 + 10/3 * (1 + 2/3)
        tree(x, 0, 555, 3333, 1, 2, 0, 9555);
        x.set(0, 51);
        // no ring any more: two blows each; the crowd: 50 is near, 45, 40 are not, and 40 does not go on
        tree(x, 0, 0, 3333, 1, 2, 0, 6777);
        x.set(2, 9);
        tree(x, 0, 0, 9000, 1, 1, 0, 5666);
    }

    private static void treeEdges() {
        BellHammer x = Check.at("trier a force 50 aim 5 tires 0 coins 2 stays 99; price 3; crowd 9; lean when all; bell 99;"
            + "trier b force 50 aim 5 tires 0 coins 3 stays 99; trier c force 50 aim 0 tires 0 coins 99 stays 48; tries 4;");
        tree(x, 0, 0, 0, 0, 0, 0, 9000);
        tree(x, 1, 0, 3000, 1, 1, 1000, 9000);
        tree(x, 2, 0, 3000, 1, 1, 1000, 9000);
        x.rule(0, false);
        tree(x, 2, 0, 3000, 1, 1, 0, 9000);
        x.set(0, 98);
        tree(x, 2, 0, 12000, 4, 4, 0, 9000);
        x.set(0, 97);
        tree(x, 2, 0, 12000, 4, 4, 0, 9000);
        x.set(0, 50);
        tree(x, 2, 1000, 3000, 1, 1, 0, 12000);
        Check.due("tree(3, 0)", x.tree(3, 0), -1);
        Check.due("tree(-1, 0)", x.tree(-1, 0), -1);
        Check.due("tree(0, 6)", x.tree(0, 6), -1);
        Check.due("tree(0, -1)", x.tree(0, -1), -1);
    }

    /** The showman leans at a second try behind a near miss, when he sees it by the crowd, the coins or the last one. */
    private static void leaningTree() {
        String fair = "trier a force 60 aim 1 tires 0 coins 5 stays 50; bell 60; slack 50; near 9; tries 3; price 1; comes 0 1 0; lean when ";
        // off 0 rings, off 1 is 54, near: leaning makes 30 or 27
        tree(Check.at(fair + "crowd=1;"), 0, 500, 2000, 1, 3, 500, 500);
        tree(Check.at(fair + "tried=1;"), 0, 750, 2000, 1, 3, 500, 750);
        tree(Check.at(fair + "coins=4;"), 0, 750, 2000, 1, 3, 500, 750);
        tree(Check.at(fair + "last=54;"), 0, 750, 2000, 1, 3, 500, 750);
        tree(Check.at(fair + "rings>0;"), 0, 875, 1750, 1, 3, 0, 875);
        tree(Check.at(fair + "lady=0;"), 0, 0, 3000, 3, 3, 1000, 0);
    }

    private static void best() {
        String two = "trier a force 60 aim 1 tires 0 coins 5 stays 50; bell 60; slack 50; near 9; tries 3; comes 0 1 0;";
        // all the time: 3 blows; at the second try alone: 2
        BellHammer x = Check.at(two + "lean when tried=1; lean when all; lean when not all;");
        Check.due("best(0)", x.best(0), 2);
        Check.due("best(1)", x.best(1), 3000);
        Check.due("has(3) as it was", x.has(3), 7);
        x.rule(1, false);
        Check.due("best(0), whatever is in force", x.best(0), 2);
        x.set(2, 2);
        Check.due("best(1), two coins a blow", x.best(1), 4000);
        // none at all is best for one who does not stay with a slack blow
        BellHammer y = Check.at("trier a force 58 aim 0 tires 0 coins 5 stays 2; bell 60; slack 50; lean when all; lean when all;");
        Check.due("best(0), none", y.best(0), 0);
        Check.due("best(1), none", y.best(1), 3000);
        // thirds and fifths together: compared as fractions, floored at the end
        BellHammer z = Check.at("trier a force 50 aim 2 tires 0 coins 9 stays 99; trier b force 50 aim 4 tires 0 coins 9 stays 99;"
            + "tries 2; lean when not all;");
        Check.due("best(1) of thirds and fifths", z.best(1), 1666 + 1800);
        Check.due("tree(0, 1)", z.tree(0, 1), 1666);
        Check.due("tree(1, 1)", z.tree(1, 1), 1800);
        BellHammer w = Check.at("trier a force 50 aim 2 tires 0 coins 9 stays 99; trier b force 50 aim 2 tires 0 coins 9 stays 99; tries 2;");
        Check.due("best(1) of two thirds", w.best(1), 3333);
        Check.due("best(2)", w.best(2), -1);
        Check.due("best(-1)", w.best(-1), -1);
        // in a tree nobody has rung ahead of a blow
        BellHammer noRings = Check.at(two + "lean when rings>0; lean when rings=0;");
        Check.due("best(0), no rings", noRings.best(0), 2);
        Check.due("best(1), no rings", noRings.best(1), 3000);
        BellHammer six = Check.at(two + "lean when not all;lean when not all;lean when not all;lean when not all;lean when 2<1;lean when lady=0;");
        Check.due("best(0), the sixth", six.best(0), 32);
        Check.due("best(0) of nobody", new BellHammer().best(0), 0);
        Check.due("best(1) of nobody", new BellHammer().best(1), 0);
    }

    private static void honest() {
        // off 0 to 1: 60, 54; from 61 on he never rings and stays up to 64
        BellHammer x = Check.at("trier a force 60 aim 1 tires 0 coins 6 stays 10; lean when all; bell 5; price 2;");
        Check.due("honest(0)", x.honest(0), 61);
        Check.due("honest(1)", x.honest(1), 6000);
        Check.due("the bell as it was", x.has(4), 5);
        Check.due("the rules as they were", x.has(3), 1);
        BellHammer y = Check.at("trier a force 99 aim 0 tires 0 coins 5 stays 10;");
        Check.due("honest(0), he always rings", y.honest(0), 1);
        Check.due("honest(1), he always rings", y.honest(1), 1000);
        BellHammer z = Check.at("trier a force 98 aim 0 tires 0 coins 5 stays 1;");
        Check.due("honest(0), the highest one", z.honest(0), 99);
        Check.due("honest(1), the highest one", z.honest(1), 3000);
        Check.due("honest(2)", z.honest(2), -1);
        Check.due("honest(-1)", z.honest(-1), -1);
        z.set(2, 9);
        Check.due("honest(0), no coins", z.honest(0), 1);
        Check.due("honest(1), no coins", z.honest(1), 0);
    }

    private static void bet() {
        BellHammer x = Check.at("trier a force 60 aim 2 tires 9 coins 0 stays 0; trier b force 54 aim 1 tires 9 coins 0 stays 0; bell 1; slack 90; lean when all;");
        // 60, 54, 48 against 54, 48
        Check.due("bet(0, 1, 0)", x.bet(0, 1, 0), 500);
        Check.due("bet(0, 1, 1)", x.bet(0, 1, 1), 333);
        Check.due("bet(1, 0, 0)", x.bet(1, 0, 0), 166);
        Check.due("bet(1, 0, 1)", x.bet(1, 0, 1), 333);
        BellHammer y = Check.at("trier a force 60 aim 0 tires 9 coins 0 stays 0; trier b force 60 aim 0 tires 9 coins 0 stays 0;"
            + "trier c force 59 aim 0 tires 9 coins 0 stays 0;");
        Check.due("alike for sure", y.bet(0, 1, 1), 1000);
        Check.due("not higher", y.bet(0, 1, 0), 0);
        Check.due("higher for sure", y.bet(0, 2, 0), 1000);
        Check.due("not alike", y.bet(0, 2, 1), 0);
        int[][] none = {{0, 0, 0}, {1, 1, 1}, {0, 2, 0}, {2, 0, 0}, {-1, 0, 0}, {0, -1, 0}, {0, 1, 2}, {0, 1, -1}};
        for (int[] n : none) {
            Check.due("bet(" + n[0] + ", " + n[1] + ", " + n[2] + ")", x.bet(n[0], n[1], n[2]), -1);
        }
    }

    /** Fairs in which it matters how many came, how high the last one was and what is left: best against the plain model. */
    private static void bestByTheModel() {
        Random random = new Random(11);
        for (int run = 0; run < 400; run++) {
            StringBuilder text = new StringBuilder("bell 60; tries " + (run % 8 == 0 ? 2 : 3 + run % 2) + "; near " + (1 + random.nextInt(15)) + "; slack "
                + random.nextInt(40) + "; comes 9 " + random.nextInt(5) + " " + random.nextInt(5) + "; crowd " + random.nextInt(4) + ";");
            for (int i = 0; i < 1 + run % 2; i++) {
                text.append("trier t").append((char) ('a' + i)).append(" force ").append(55 + random.nextInt(20)).append(" aim ")
                    .append(1 + random.nextInt(run % 4 == 0 ? 5 : 3)).append(" tires ").append(random.nextInt(5)).append(" coins ")
                    .append(5 + random.nextInt(9)).append(" stays ").append(10 + random.nextInt(30)).append(";");
            }
            for (int i = 0; i < 1 + run % 3; i++) {
                String[] tests = {"crowd=" + random.nextInt(14), "crowd>" + random.nextInt(12), "crowd<" + random.nextInt(12),
                    "last>" + (35 + random.nextInt(25)), "last-last/2*2=0", "tried=" + random.nextInt(4),
                    "coins<" + (3 + random.nextInt(9)), "crowd*7-last/3*5>" + random.nextInt(20), "crowd-crowd/3*3=" + random.nextInt(3)};
                text.append("lean when ").append(tests[random.nextInt(tests.length)]).append(random.nextBoolean() ? " and " : " or ")
                    .append(tests[random.nextInt(tests.length)]).append(";");
            }
            BellHammer x = Check.at(text.toString());
            Model y = new Model();
            Check.text(y, text.toString());
            y.fair();
            Check.due("best(0) of " + text, x.best(0), y.best(0));
            Check.due("best(1) of " + text, x.best(1), y.best(1));
            Check.due("honest(0) of " + text, x.honest(0), y.honest(0));
            Check.due("honest(1) of " + text, x.honest(1), y.honest(1));
            for (int what = 0; what < 6; what++) {
                Check.due("tree(0, " + what + ") of " + text, x.tree(0, what), y.tree(0, what));
            }
        }
    }

    /** Eight triers with six offs each, four tries, six rules: exact, and with an end. */
    private static void widestTree() {
        StringBuilder text = new StringBuilder("bell 95;tries 4;near 10;comes 1 2 3;");
        for (int i = 0; i < 8; i++) {
            text.append("trier t").append((char) ('a' + i)).append(" force 9").append(i).append(" aim 5 tires 5 coins 99 stays 99;");
        }
        for (int i = 0; i < 6; i++) {
            text.append("lean when last*").append(i).append(">crowd+tried*7;");
        }
        long most = -1;
        int bits = -1;
        for (int set = 0; set < 64; set++) {
            BellHammer x = Check.at(text.toString());
            for (int r = 0; r < 6; r++) {
                x.rule(r, (set >> r & 1) == 1);
            }
            long all = 0;
            for (int trier = 0; trier < 8; trier++) {
                all += x.tree(trier, 1);
            }
            if (all > most) {
                most = all;
                bits = set;
            }
        }
        BellHammer x = Check.at(text.toString());
        Check.due("best(0) of many", x.best(0), bits);
        Check.due("best(1) of many", x.best(1) - most >= 0 && x.best(1) - most < 8, true);
    }
}
