import java.util.Random;

/** All promises with wrong inputs: numbers far out, in all states; answers as the plain model gives them, and nothing thrown. */
public final class WildTest {
    private static final int[] WILD = {Integer.MIN_VALUE, Integer.MIN_VALUE + 1, -1000000, -129, -32, -2, -1, 0, 1, 2, 3, 4, 5, 6, 7, 8, 9,
        10, 31, 32, 33, 60, 64, 90, 99, 100, 255, 256, 700, 998, 999, 1000, 1600, 65536, 1 << 30, Integer.MAX_VALUE - 1, Integer.MAX_VALUE};
    private static final String[] FAIRS = {"", "bell 1;", "trier a force 1 aim 0 tires 20 coins 0 stays 0;",
        "trier a force 99 aim 5 tires 20 coins 99 stays 99; mark b at 1; lean when all; tries 4; slack 90; price 9; comes 9 9 9; crowd 99;",
        "mark a at 99; mark b at 99; mark c at 1; mark d at 1; mark e at 5; mark f at 5; bell 99;"
            + "trier t force 50 aim 5 tires 9 coins 99 stays 99 lady; trier u force 51 aim 4 tires 9 coins 99 stays 99;"
            + "lean when 1/0=0; lean when 0-9999*9999*9999<0-9999; lean when (0-7)/2=0-4; lean when not not not not not not all;"
            + "lean when [[[[[(1)=1]]]]]; lean when crowd*crowd*crowd>last;"};

    private final Random random = new Random(5);
    private BellHammer x = new BellHammer();
    private Model y = new Model();

    public static void main(String[] args) {
        WildTest test = new WildTest();
        for (int run = 0; run < 600; run++) {
            test.run(FAIRS[run % FAIRS.length]);
        }
        Check.close();
    }

    private int wild() {
        return random.nextInt(40) == 0 ? random.nextInt() : WILD[random.nextInt(WILD.length)];
    }

    private int small() {
        return random.nextInt(3) == 0 ? wild() : random.nextInt(3);
    }

    private void run(String fair) {
        x = new BellHammer();
        y = new Model();
        Check.text(x, fair);
        Check.text(y, fair);
        Check.due("fair()", x.fair(), y.fair());
        Check.due("fault(0)", x.fault(0), 0);
        for (int i = 0; i < 380; i++) {
            if (random.nextBoolean()) {
                ask();
            } else {
                doIt();
            }
        }
    }

    private void ask() {
        int a = small();
        int b = small();
        int c = small();
        int d = wild();
        int e = wild();
        boolean is = random.nextBoolean();
        switch (random.nextInt(22)) {
            case 0: Check.due("fault", x.fault(a), y.fault(a)); break;
            case 1: Check.due("has", x.has(d), y.has(d)); break;
            case 2: Check.due("letter", x.letter(a, b, c), y.letter(a, b, c)); break;
            case 3: Check.due("trier", x.trier(a, b), y.trier(a, b)); break;
            case 4: Check.due("mark", x.mark(a), y.mark(a)); break;
            case 5: Check.due("past", x.past(d), y.past(d)); break;
            case 6: Check.due("high", x.high(a, b, c, is), y.high(a, b, c, is)); break;
            case 7: Check.due("hard", x.hard(d, is), y.hard(d, is)); break;
            case 8: Check.due("wide", x.wide(d, is), y.wide(d, is)); break;
            case 9: Check.due("leans", x.leans(a, d, b, e, c), y.leans(a, d, b, e, c)); break;
            case 10: Check.due("tree", x.tree(a, b), y.tree(a, b)); break;
            case 11: if (a != 0 && a != 1) { Check.due("best", x.best(a), y.best(a)); } break;
            case 12: if (a != 0 && a != 1) { Check.due("honest", x.honest(a), y.honest(a)); } break;
            case 13: Check.due("bet", x.bet(a, b, c), y.bet(a, b, c)); break;
            case 14: Check.due("kept", x.kept(d, a), y.kept(d, a)); break;
            case 15: Check.due("was", x.was(a), y.was(a)); break;
            case 16: Check.due("strong", x.strong(e), d == 0 ? y.strong(e) : x.strong(e)); break;
            case 17: Check.due("next", x.next(is), y.next(is)); break;
            case 18: Check.due("clear", x.clear(a), y.clear(a)); break;
            case 19: Check.due("reach", x.reach(a, b), y.reach(a, b)); break;
            case 20: Check.due("octet", x.octet(d), y.octet(d)); break;
            default: Check.due("status", x.status(d), y.status(d));
        }
    }

    private void doIt() {
        int a = small();
        int b = wild();
        int c = random.nextInt();
        switch (random.nextInt(11)) {
            case 0: Check.due("feed", x.feed(a, b, c, c, b), y.feed(a, b, c, c, b)); break;
            case 1: Check.due("end", x.end(b), y.end(b)); break;
            case 2: if (random.nextInt(30) == 0) { Check.due("fair", x.fair(), y.fair()); } break;
            case 3: Check.due("rule", x.rule(a, b > 5), y.rule(a, b > 5)); break;
            case 4: Check.due("set", x.set(a, b), y.set(a, b)); break;
            case 5: Check.due("undo", x.undo(), y.undo()); break;
            case 6: Check.due("seed", x.seed(b), y.seed(b)); break;
            case 7: Check.due("see", x.see(a), y.see(a)); break;
            case 8: Check.due("image", x.image(), y.image()); break;
            case 9: Check.due("on", x.on(), y.on()); break;
            default: Check.due("night", x.night(), y.night());
        }
    }
}
