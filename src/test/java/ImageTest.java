import java.util.Arrays;

/** Promises 31 to 34: image, octet, on, status. */
public final class ImageTest {
    private static final String FAIR = "trier a force 50 aim 2 tires 0 coins 99 stays 99; price 9; tries 4; bell 99; slack 33; lean when all; lean when not all;";

    public static void main(String[] args) {
        images();
        on();
        refusedOnes();
        statuses();
        Check.close();
    }

    private static void octets(BellHammer x, int... want) {
        for (int k = 0; k < want.length; k++) {
            Check.due("octet(" + k + ")", x.octet(k), want[k]);
        }
        Check.due("octet behind", x.octet(want.length), -1);
        Check.due("octet(-1)", x.octet(-1), -1);
    }

    private static void images() {
        BellHammer x = Check.at(FAIR);
        octets(x);
        for (int i = 0; i < 20; i++) {
            x.night();
        }
        x.rule(0, false);
        x.set(0, 7);
        x.set(1, 8);
        octets(x);
        Check.due("image()", x.image(), 10);
        // 20 nights of 36 coins are 720
        octets(x, Check.withCheck(0, 20, 0, 2, 208, 2, 7, 8, 9));
        x.set(2, 1);
        Check.due("the latest one stays", x.octet(8), 9);
        Check.text(x, "bell 3;");
        x.fair();
        octets(x, Check.withCheck(0, 20, 0, 2, 208, 2, 7, 8, 9));
        Check.due("image()", x.image(), 10);
        octets(x, Check.withCheck(0, 0, 0, 0, 0, 0, 3, 20, 1));
    }

    private static void on() {
        BellHammer x = Check.at(FAIR);
        x.night();
        Check.tape(x, 1, 2);
        x.see(0);
        int ways = x.was(-1);
        x.set(0, 98);
        // 999 nights, 287712 takings: the most there can be
        Check.due("on()", Check.on(x, Check.withCheck(3, 231, 4, 99, 224, 1, 99, 33, 3)), true);
        int[] want = {0, 1, 2, 1, 99, 3, 4, 33, 0, 3, 999, 287712, 0, 0};
        for (int what = 0; what < want.length; what++) {
            Check.due("has(" + what + ") behind on()", x.has(what), want[what]);
        }
        x.image();
        octets(x, Check.withCheck(3, 231, 4, 99, 224, 1, 99, 33, 3));
        Check.due("kept(0, 0)", x.kept(0, 0), -1);
        Check.due("undo()", x.undo(), false);
        Check.due("what is seen stays", x.was(-1), ways);
        Check.due("the tape went", x.end(1), false);
        Check.due("night()", x.night(), -1);
        Check.due("on() of few nights", Check.on(x, Check.withCheck(0, 9, 0, 0, 0, 3, 1, 0, 1)), true);
        Check.due("night()", x.night() > 0, true);
        Check.due("it is the 10th", x.kept(0, 0), 10);
        // an image goes to another object of the same fair, acts and all
        BellHammer y = Check.at(FAIR);
        x.image();
        int[] bytes = new int[10];
        for (int k = 0; k < 10; k++) {
            bytes[k] = x.octet(k);
        }
        Check.due("on() elsewhere", Check.on(y, bytes), true);
        for (int what = 0; what < 12; what++) {
            Check.due("has(" + what + ") elsewhere", y.has(what), x.has(what));
        }
        Check.due("octet(0) elsewhere", y.octet(0), -1);
    }

    private static void refusedOnes() {
        BellHammer x = Check.at(FAIR);
        x.night();
        x.set(0, 98);
        int[][] wrong = {
            {3, 232, 0, 0, 0, 0, 50, 20, 1},
            {255, 255, 0, 0, 0, 0, 50, 20, 1},
            {0, 0, 0, 0, 1, 0, 50, 20, 1},
            {0, 1, 0, 1, 33, 0, 50, 20, 1},
            {3, 231, 4, 99, 225, 0, 50, 20, 1},
            {0, 0, 0, 0, 0, 4, 50, 20, 1},
            {0, 0, 0, 0, 0, 255, 50, 20, 1},
            {0, 0, 0, 0, 0, 0, 0, 20, 1},
            {0, 0, 0, 0, 0, 0, 100, 20, 1},
            {0, 0, 0, 0, 0, 0, 50, 91, 1},
            {0, 0, 0, 0, 0, 0, 50, 20, 0},
            {0, 0, 0, 0, 0, 0, 50, 20, 10}};
        int refused = 0;
        for (int[] w : wrong) {
            Check.due("on() of " + Arrays.toString(w), Check.on(x, Check.withCheck(w)), false);
            refused++;
        }
        int[] right = Check.withCheck(0, 1, 0, 1, 32, 3, 99, 90, 9);
        for (int i = 0; i < 10; i++) {
            int[] other = right.clone();
            other[i] ^= 1;
            Check.due("on() with a wrong byte " + i, Check.on(x, other), false);
            refused++;
        }
        Check.due("on() of nothing", Check.on(x), false);
        Check.due("on() of nine", Check.on(x, Arrays.copyOf(right, 9)), false);
        Check.due("on() of eleven", Check.on(x, Arrays.copyOf(right, 11)), false);
        Check.due("status(5)", x.status(5), refused + 3);
        int[] stays = {0, 1, 2, 3, 98, 9, 4, 33, 0, 3, 1, 36, 4, 2};
        for (int what = 0; what < stays.length; what++) {
            Check.due("has(" + what + ") stays", x.has(what), stays[what]);
        }
        Check.due("on() at last", Check.on(x, right), true);
        Check.due("no rules, no bits", Check.on(new BellHammer(), Check.withCheck(0, 0, 0, 0, 0, 1, 50, 20, 1)), false);
    }

    private static void statuses() {
        BellHammer x = new BellHammer();
        x.end(1);
        x.end(0);
        x.see(0);
        x.see(0);
        Check.text(x, "x");
        x.fair();
        x.rule(0, true);
        x.set(0, 0);
        x.set(0, 1);
        x.rule(0, false);
        x.set(9, 0);
        x.undo();
        x.undo();
        x.seed(-5);
        x.seed(5);
        x.on();
        int[] want = {1, 3, 0, 4, 1, 2};
        for (int what = 0; what < 6; what++) {
            Check.due("status(" + what + ")", x.status(what), want[what]);
        }
        Check.due("status(6)", x.status(6), -1);
        Check.due("status(-1)", x.status(-1), -1);
        Check.text(x, "bell 5;");
        x.fair();
        Check.due("a fair leaves them", x.status(1), 3);
    }
}
