/** Promises 25 to 30: see, was, strong, next, clear, reach. */
public final class SeenTest {
    private static final String ANN = "trier ann force 60 aim 1 tires 5 coins 0 stays 0; trier bob force 48 aim 2 tires 0 coins 0 stays 0; bell 50; slack 20;";

    public static void main(String[] args) {
        see();
        was();
        bellMoves();
        strong();
        next();
        clear();
        reach();
        Check.close();
    }

    private static void see() {
        BellHammer x = Check.at(ANN);
        Check.due("see of nothing", Check.see(x, 0), false);
        Check.due("was(-1)", x.was(-1), -1);
        Check.due("strong(0)", x.strong(0), -1);
        Check.due("next(false)", x.next(false), -1);
        Check.due("see 50", Check.see(x, 0, 50), true);
        Check.due("see 0", Check.see(x, 0, 0), true);
        Check.due("see four", Check.see(x, 0, 50, 49, 0, 50), true);
        Check.due("was(3)", x.was(3), 0);
        Check.due("see five", Check.see(x, 0, 1, 1, 1, 1, 1), false);
        Check.due("see 51", Check.see(x, 0, 50, 51), false);
        Check.due("see 255", Check.see(x, 0, 255), false);
        Check.due("no trier 2", Check.see(x, 2, 1), false);
        Check.due("no trier -1", Check.see(x, -1, 1), false);
        Check.due("status(1)", x.status(1), 6);
        Check.due("the tape went", x.end(1), false);
        Check.due("what was seen stays", x.was(3), 0);
        x.set(0, 60);
        Check.due("see 51 now", Check.see(x, 0, 51), true);
        Check.due("see 61 now", Check.see(x, 0, 61), false);
    }

    private static void was() {
        BellHammer x = Check.at(ANN);
        // ann: tight 50 (rings), 50 (54 rings); slack 48, 43; then tight 50 (55), 49; slack 44, 39
        Check.see(x, 0, 50);
        Check.due("ways to ring", x.was(-1), 2);
        Check.due("tight for sure", x.was(0), 0);
        Check.see(x, 0, 48, 49);
        Check.due("ways", x.was(-1), 1);
        Check.due("was 0 slack", x.was(0), 1000);
        Check.due("was 1 slack", x.was(1), 0);
        Check.due("was(2)", x.was(2), -1);
        Check.due("was(-2)", x.was(-2), -1);
        Check.see(x, 0, 48, 48);
        Check.due("no ways", x.was(-1), 0);
        Check.due("0 without ways", x.was(0), 0);
        Check.due("0 without ways, 1", x.was(1), 0);
        // bob: tight 48, 43, 38; slack 38, 34, 30
        Check.see(x, 1, 38, 48, 38);
        Check.due("ways of bob", x.was(-1), 4);
        Check.due("bob was 0 slack", x.was(0), 500);
        Check.due("bob was 1 slack", x.was(1), 0);
        Check.due("bob was 2 slack", x.was(2), 500);
        BellHammer y = Check.at("trier a force 1 aim 5 tires 0 coins 0 stays 0; slack 0;");
        Check.see(y, 0, 0, 0, 0, 0);
        Check.due("ways of many", y.was(-1), 10000);
        Check.due("half slack", y.was(2), 500);
        y.set(1, 90);
        Check.due("ways of more", y.was(-1), 11 * 11 * 11 * 11);
        Check.due("six of eleven", y.was(3), 545);
    }

    private static void bellMoves() {
        BellHammer x = Check.at(ANN);
        Check.see(x, 0, 50);
        Check.due("a ring", x.was(-1), 2);
        x.set(0, 54);
        Check.due("no blow is 50 now", x.was(-1), 0);
        x.undo();
        Check.due("a ring again", x.was(-1), 2);
        x.set(0, 40);
        Check.due("above the bell", x.was(-1), 0);
    }

    private static void strong() {
        BellHammer x = Check.at(ANN);
        Check.see(x, 1, 50);
        // tight from 50 on; slack at 63 and on; 99 at most
        Check.due("strong(0)", x.strong(0), 50);
        Check.due("strong(1)", x.strong(1), 50);
        Check.due("strong(2)", x.strong(2), 99);
        Check.due("strong(3)", x.strong(3), -1);
        Check.due("strong(-1)", x.strong(-1), -1);
        Check.see(x, 0, 10, 49);
        Check.due("none can", x.strong(0), 0);
        Check.due("no least", x.strong(1), -1);
        Check.due("no greatest", x.strong(2), -1);
        BellHammer y = Check.at("trier a force 9 aim 0 tires 4 coins 9 stays 99; bell 20; slack 50;");
        // f or f/2 is 8; then f - 4 or half of it is 6: 16 and 17 by halves, as 12/2 and 13/2 are 6
        Check.see(y, 0, 8, 6);
        Check.due("halves", y.strong(0), 2);
        Check.due("the least", y.strong(1), 16);
        Check.due("the greatest", y.strong(2), 17);
        Check.see(y, 0, 0);
        // 1 slack is 0
        Check.due("the weakest", y.strong(1), 1);
        Check.due("the weakest alone", y.strong(0), 1);
        Check.due("trier as told", y.trier(0, 0), 9);
        Check.due("blow as told", y.high(0, 0, 0, false), 9);
    }

    private static void next() {
        BellHammer x = Check.at("trier a force 60 aim 2 tires 5 coins 0 stays 0; bell 50; slack 10; tries 3;");
        // first 60, 54, 48; second 55, 49, 44; third 50, 45, 40
        Check.due("nothing seen", x.next(false), -1);
        Check.see(x, 0, 48);
        Check.due("second tight", x.next(false), 333);
        Check.due("second slack", x.next(true), 0);
        x.set(0, 49);
        Check.due("second tight, lower", x.next(false), 666);
        Check.due("second slack, lower", x.next(true), 333);
        Check.see(x, 0, 48, 48);
        Check.due("third tight", x.next(false), 333);
        BellHammer y = Check.at("trier a force 60 aim 0 tires 10 coins 0 stays 0; bell 50; slack 10;");
        Check.see(y, 0, 50);
        Check.due("for sure", y.next(false), 1000);
        Check.due("surely not", y.next(true), 0);
        Check.see(x, 0, 48, 48, 48);
        Check.due("as many as tries", x.next(false), -1);
        Check.see(x, 0, 48, 48, 48, 48);
        Check.due("more than tries", x.next(false), -1);
    }

    private static void clear() {
        BellHammer x = Check.at("trier a force 60 aim 0 tires 5 coins 0 stays 0; trier b force 99 aim 0 tires 5 coins 0 stays 0;"
            + "trier c force 1 aim 0 tires 0 coins 0 stays 0; bell 50; slack 20;");
        Check.due("48 is both", x.clear(0), 1);
        Check.due("both ring", x.clear(1), -1);
        Check.due("1 and 0, then 0 and 0", x.clear(2), 0);
        Check.due("clear(3)", x.clear(3), -1);
        Check.due("clear(-1)", x.clear(-1), -1);
        x.set(1, 0);
        Check.due("no slack", x.clear(0), -1);
        x.set(1, 90);
        Check.due("6 is both", x.clear(0), 8);
        x.set(0, 1);
        Check.due("all ring", x.clear(0), -1);
        x.undo();
        // 99 slack is 9, and 99 nine off is 9
        Check.due("9 is both", x.clear(1), 8);
        x.set(1, 50);
        // 50, 50, 48, 42, 36, 30 against 30
        Check.due("30 is both", x.clear(0), 4);
        BellHammer y = Check.at("trier a force 10 aim 0 tires 0 coins 0 stays 0; slack 45;");
        // tight 10, 9, 8, 7, 6, 5 against slack 5
        Check.due("5 is both", y.clear(0), 4);
    }

    private static void reach() {
        BellHammer x = Check.at("mark low at 10; mark mid at 30; mark same at 30; mark top at 40; bell 50; tries 2;"
            + "trier a force 35 aim 0 tires 10 coins 9 stays 99; trier b force 9 aim 0 tires 0 coins 9 stays 99;"
            + "trier c force 39 aim 0 tires 20 coins 9 stays 99; trier d force 45 aim 0 tires 3 coins 1 stays 99;");
        Check.due("none yet", x.reach(0, 0), 0);
        Check.due("nobody yet", x.reach(0, 1), -1);
        x.night();
        x.night();
        int[][] want = {{4, 0}, {4, 0}, {0, -1}, {2, 3}};
        for (int mark = 0; mark < 4; mark++) {
            Check.due("reach(" + mark + ", 0)", x.reach(mark, 0), want[mark][0]);
            Check.due("reach(" + mark + ", 1)", x.reach(mark, 1), want[mark][1]);
        }
        Check.due("reach(4, 0)", x.reach(4, 0), -1);
        Check.due("reach(-1, 0)", x.reach(-1, 0), -1);
        Check.due("reach(0, 2)", x.reach(0, 2), -1);
        Check.due("reach(0, -1)", x.reach(0, -1), -1);
        x.set(2, 9);
        // a and c have coins for one blow: both at mid
        x.night();
        Check.due("mid", x.reach(1, 0), 6);
        for (int night = 0; night < 40; night++) {
            x.night();
        }
        // 3 blows a night: the last 60 are those of 20 nights
        Check.due("mid, of the last 60", x.reach(1, 0), 40);
        Check.due("low, of the last 60", x.reach(0, 0), 0);
    }
}
