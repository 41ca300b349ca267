import java.util.Arrays;

/** Promises 11 to 14: high, hard, wide, leans. */
public final class BlowTest {
    public static void main(String[] args) {
        high();
        hardAndWide();
        leansEdges();
        tests();
        sums();
        Check.close();
    }

    private static void high() {
        BellHammer x = Check.at("trier a force 77 aim 0 tires 20 coins 0 stays 0; bell 60; slack 33; tries 1;");
        for (int blows = 0; blows < 4; blows++) {
            for (int off = 0; off < 10; off++) {
                int force = Math.max(1, 77 - 20 * blows);
                int tight = (int) Math.floor(force * (100 - 10 * off) / 100.0 + 1e-9);
                int slack = (int) Math.floor(tight * 67 / 100.0 + 1e-9);
                Check.due("high " + blows + " " + off, x.high(0, blows, off, false), Math.min(60, tight));
                Check.due("high slack " + blows + " " + off, x.high(0, blows, off, true), Math.min(60, slack));
            }
        }
        BellHammer y = Check.at("trier a force 30 aim 0 tires 15 coins 0 stays 0; bell 99; slack 0;");
        Check.due("tired to 1", y.high(0, 2, 0, false), 1);
        Check.due("tired to 1 still", y.high(0, 3, 0, false), 1);
        Check.due("slack 0", y.high(0, 0, 0, true), 30);
        Check.due("no trier 1", y.high(1, 0, 0, false), -1);
        Check.due("no trier -1", y.high(-1, 0, 0, false), -1);
        Check.due("blows 4", y.high(0, 4, 0, false), -1);
        Check.due("blows -1", y.high(0, -1, 0, false), -1);
        Check.due("off 10", y.high(0, 0, 10, false), -1);
        Check.due("off -1", y.high(0, 0, -1, false), -1);
        y.set(0, 20);
        Check.due("lower bell", y.high(0, 0, 0, true), 20);
        y.set(1, 50);
        Check.due("more slack", y.high(0, 0, 0, true), 15);
    }

    private static void hardAndWide() {
        BellHammer x = new BellHammer();
        for (int bell = 1; bell <= 99; bell += 7) {
            for (int slack = 0; slack <= 90; slack += 15) {
                x = new BellHammer();
                x.set(0, bell);
                x.set(1, slack);
                hardAndWide(x, bell, slack);
            }
        }
        Check.due("hard(-1)", x.hard(-1, false), -1);
        Check.due("hard(10)", x.hard(10, false), -1);
        Check.due("wide(0)", x.wide(0, false), -1);
        Check.due("wide(100)", x.wide(100, false), -1);
        x.set(0, 1);
        x.set(1, 90);
        Check.due("wide(1) tight", x.wide(1, false), 0);
        Check.due("wide(9) slack", x.wide(9, true), -1);
        Check.due("wide(99) tight", x.wide(99, false), 9);
        Check.due("hard(9) tight", x.hard(9, false), 10);
        Check.due("hard(0) slack", x.hard(0, true), 10);
    }

    private static void hardAndWide(BellHammer x, int bell, int slack) {
        for (int way = 0; way < 2; way++) {
            int less = way == 1 ? slack : 0;
            for (int off = 0; off < 10; off++) {
                int least = -1;
                for (int force = 99; force >= 1; force--) {
                    least = force * (10 - off) / 10 * (100 - less) / 100 >= bell ? force : least;
                }
                Check.due("hard " + bell + " " + slack + " " + off, x.hard(off, way == 1), least);
            }
            for (int force = 1; force < 100; force++) {
                int widest = -1;
                for (int off = 0; off < 10; off++) {
                    widest = force * (10 - off) / 10 * (100 - less) / 100 >= bell ? off : widest;
                }
                Check.due("wide " + bell + " " + slack + " " + force, x.wide(force, way == 1), widest);
            }
        }
    }

    private static void leansEdges() {
        BellHammer x = Check.at("trier a force 1 aim 0 tires 0 coins 5 stays 0; trier b force 1 aim 0 tires 0 coins 7 stays 0 lady;"
            + "lean when coins=7; lean when crowd=999 and tried=3 and last=99 and rings=99;");
        Check.due("coins as told", x.leans(0, 0, 3, 0, 0), 0);
        Check.due("coins as told, lady", x.leans(1, 0, 3, 0, 0), 1);
        Check.due("all at most", x.leans(0, 999, 3, 99, 99), 1);
        int[][] none = {{-1, 0, 0, 0, 0}, {2, 0, 0, 0, 0}, {0, -1, 0, 0, 0}, {0, 1000, 0, 0, 0}, {0, 0, -1, 0, 0},
            {0, 0, 4, 0, 0}, {0, 0, 0, -1, 0}, {0, 0, 0, 100, 0}, {0, 0, 0, 0, -1}, {0, 0, 0, 0, 100}};
        for (int[] n : none) {
            Check.due("leans " + Arrays.toString(n), x.leans(n[0], n[1], n[2], n[3], n[4]), -1);
        }
        x.rule(1, false);
        Check.due("a rule that is not in force", x.leans(0, 999, 3, 99, 99), 0);
        Check.due("the other one is", x.leans(1, 0, 0, 0, 0), 1);
        x.rule(0, false);
        Check.due("none is in force", x.leans(1, 0, 0, 0, 0), 0);
        Check.due("none at all", Check.at("trier a force 1 aim 0 tires 0 coins 5 stays 0;").leans(0, 0, 0, 0, 0), 0);
    }

    private static void holds(String test, int want) {
        BellHammer x = Check.at("trier a force 1 aim 0 tires 0 coins 6 stays 0 lady; lean when " + test + ";");
        Check.due(test, x.leans(0, 20, 2, 33, 4), want);
    }

    private static void tests() {
        holds("all", 1);
        holds("not all", 0);
        holds("not not all", 1);
        holds("crowd=20 and tried=2 and last=33 and lady=1 and rings=4 and coins=6", 1);
        holds("1<2", 1);
        holds("2<2", 0);
        holds("2>1", 1);
        holds("2>2", 0);
        holds("2=2", 1);
        holds("1=2", 0);
        holds("all or all and not all", 1);
        holds("[all or all] and not all", 0);
        holds("not all and not all or all", 1);
        holds("not all and [not all or all]", 0);
        holds("not [all and not all]", 1);
        holds("not all or all", 1);
        holds("not 1<2 or 2<1", 0);
        holds("not 2<1 and 1<2", 1);
        holds("not all or not all or 1=1", 1);
        holds("all and all and 1=2", 0);
    }

    private static void sums() {
        String[][] same = {{"2+3*4", "14"}, {"(2+3)*4", "20"}, {"20-3-4", "13"}, {"20-(3-4)", "21"}, {"100/7/2", "7"},
            {"100/(7/2)", "33"}, {"7*3/2", "10"}, {"7/2*3", "9"}, {"min(3,4)", "3"}, {"max(3,4)", "4"},
            {"min(4,3)+max(2,1)*2", "7"}, {"5/0", "0"}, {"(0-5)/0", "0"}, {"(0-7)/2+10", "6"}, {"7/(0-2)+10", "6"},
            {"(0-7)/(0-2)", "3"}, {"(0-6)/2+3", "0"}, {"9999*9999/100", "9999+1"}, {"(1000*1000-1)/1000", "999"},
            {"(0-9999)*9999/100+9999", "0-1"},
            {"(9999*9999+5)/1000", "1000"}, {"(0-9999*9999-5)/1000+1000", "0"}, {"max(0-3,0-4)+4", "1"},
            {"0-1-1+2", "0"}, {"crowd/tried*lady", "10"}, {"last/(coins-rings)", "16"}, {"007", "7"}};
        for (String[] s : same) {
            holds(s[0] + "=" + s[1], 1);
            holds(s[0] + "<" + s[1], 0);
            holds(s[0] + ">" + s[1], 0);
        }
        holds("1000*1000=1000*1000", 1);
        holds("1000*1000+1=1000*1000", 1);
        holds("1000*1000-1=1000*1000", 0);
        holds("0-1000*1000-1=0-1000*1000", 1);
        holds("0-1000*1000+1=0-1000*1000", 0);
        holds("0-1<0", 1);
    }
}
