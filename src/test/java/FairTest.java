/** Promises 6 to 10: has, letter, trier, mark, past. */
public final class FairTest {
    public static void main(String[] args) {
        BellHammer x = Check.at("mark top at 90; trier zed force 7 aim 2 tires 3 coins 11 stays 5; mark low at 10;"
            + "bell 30; bell 31; price 2; price 3; tries 1; tries 2; slack 40; slack 41; crowd 5; crowd 6; near 8; near 9;"
            + "trier abcdef force 99 aim 5 tires 20 coins 99 stays 98 lady; mark same at 10; mark mid at 50;"
            + "lean when all; lean when not all;");
        has(x);
        letters(x);
        triers(x);
        marks(x);
        lastOneCounts();
        Check.close();
    }

    private static void has(BellHammer x) {
        int[] want = {4, 2, 2, 3, 31, 3, 2, 41, 6, 9, 0, 0, 0, 0};
        for (int what = 0; what < want.length; what++) {
            Check.due("has(" + what + ")", x.has(what), want[what]);
        }
        Check.due("has(-1)", x.has(-1), -1);
        Check.due("has(14)", x.has(14), -1);
        BellHammer y = Check.at("trier a force 9 aim 0 tires 0 coins 9 stays 99; price 4; tries 4; lean when all;");
        y.night();
        y.rule(0, false);
        y.set(0, 12);
        y.set(1, 13);
        y.set(2, 5);
        y.night();
        int[] now = {0, 1, 1, 0, 12, 5, 4, 13, 0, 3, 2, 13, 3, 6};
        for (int what = 0; what < now.length; what++) {
            Check.due("has(" + what + ") behind acts", y.has(what), now[what]);
        }
    }

    private static void letters(BellHammer x) {
        int[] top = {20, 15, 16, 0, 0, 0};
        int[] zed = {26, 5, 4, 0, 0, 0};
        for (int k = 0; k < 6; k++) {
            Check.due("letter(0, 0, " + k + ")", x.letter(0, 0, k), top[k]);
            Check.due("letter(1, 0, " + k + ")", x.letter(1, 0, k), zed[k]);
            Check.due("letter(1, 1, " + k + ")", x.letter(1, 1, k), k + 1);
        }
        int[][] none = {{0, 0, 6}, {0, 0, -1}, {0, 4, 0}, {0, -1, 0}, {1, 2, 0}, {1, -1, 0}, {2, 0, 0}, {-1, 0, 0},
            {0, Integer.MAX_VALUE, 0}, {1, Integer.MIN_VALUE, 0}, {1, 0, Integer.MAX_VALUE}};
        for (int[] n : none) {
            Check.due("letter(" + n[0] + ", " + n[1] + ", " + n[2] + ")", x.letter(n[0], n[1], n[2]), -1);
        }
    }

    private static void triers(BellHammer x) {
        int[][] want = {{7, 2, 3, 11, 5, 0}, {99, 5, 20, 99, 98, 1}};
        for (int trier = 0; trier < 2; trier++) {
            for (int what = 0; what < 6; what++) {
                Check.due("trier(" + trier + ", " + what + ")", x.trier(trier, what), want[trier][what]);
            }
        }
        int[][] none = {{0, 6}, {0, -1}, {2, 0}, {-1, 0}, {7, 5}, {1, Integer.MAX_VALUE}};
        for (int[] n : none) {
            Check.due("trier(" + n[0] + ", " + n[1] + ")", x.trier(n[0], n[1]), -1);
        }
    }

    private static void marks(BellHammer x) {
        int[] want = {90, 10, 10, 50};
        for (int mark = 0; mark < 4; mark++) {
            Check.due("mark(" + mark + ")", x.mark(mark), want[mark]);
        }
        Check.due("mark(4)", x.mark(4), -1);
        Check.due("mark(-1)", x.mark(-1), -1);
        int[][] past = {{-1, -1}, {0, -1}, {9, -1}, {10, 1}, {49, 1}, {50, 3}, {89, 3}, {90, 0}, {99, 0}, {100, -1}};
        for (int[] p : past) {
            Check.due("past(" + p[0] + ")", x.past(p[0]), p[1]);
        }
    }

    private static void lastOneCounts() {
        BellHammer x = Check.at("comes 9 9 9; comes 7 5 2; near 4; bell 50; tries 1; crowd 10;"
            + "trier a force 50 aim 0 tires 0 coins 9 stays 0; trier b force 46 aim 0 tires 0 coins 9 stays 0;"
            + "trier c force 45 aim 0 tires 0 coins 9 stays 0;");
        BellHammer untold = Check.at("tries 1; trier a force 50 aim 0 tires 0 coins 9 stays 0;"
            + "trier b force 47 aim 0 tires 0 coins 9 stays 0; trier c force 46 aim 0 tires 0 coins 9 stays 0;");
        Check.due("crowd behind a ring, untold", untold.tree(0, 5), 3000);
        Check.due("crowd behind a near miss, untold", untold.tree(1, 5), 1000);
        Check.due("crowd behind a miss, untold", untold.tree(2, 5), 0);
        Check.due("crowd behind a ring", x.tree(0, 5), 17000);
        Check.due("crowd behind a near miss", x.tree(1, 5), 15000);
        Check.due("crowd behind a miss", x.tree(2, 5), 12000);
    }
}
