import java.util.Random;

/** All promises: random runs of calls, each answer against the plain model's. */
public final class ModelTest {
    private static final String[] PARTS = {"crowd", "tried", "last", "lady", "rings", "coins", "0", "1", "2", "7", "20", "999", "9999"};
    private static final String LETTERS = "abcdefghijklmnopqrstuvwxyz";
    private static final String SPOILERS = "abcxyz019 ;()[]<>=+-*/,\n\tAZ\u00ff\u0000";

    private final Random random;
    private final BellHammer x = new BellHammer();
    private final Model y = new Model();
    private final StringBuilder told = new StringBuilder();
    private int calls;

    private ModelTest(long seed) {
        random = new Random(seed);
    }

    public static void main(String[] args) {
        int runs = args.length > 1 ? Integer.parseInt(args[1]) : 600;
        int from = args.length > 2 ? Integer.parseInt(args[2]) : 0;
        for (int run = from; run < from + runs; run++) {
            int before = Check.wrongOnes();
            ModelTest test = new ModelTest(run);
            test.go(run % 3);
            if (Check.wrongOnes() > before && before < 3) {
                System.out.println("run " + run + ":\n" + test.told);
            }
        }
        Check.close();
    }

    private int upTo(int n) {
        return random.nextInt(n + 1);
    }

    private boolean chance(int percent) {
        return random.nextInt(100) < percent;
    }

    // ---- texts

    private String sum(int deep) {
        StringBuilder s = new StringBuilder(part(deep));
        while (chance(30)) {
            s.append("+-*/".charAt(upTo(3))).append(part(deep));
        }
        return s.toString();
    }

    private String part(int deep) {
        if (deep > 0 && chance(20)) {
            return chance(50) ? "(" + sum(deep - 1) + ")"
                : (chance(50) ? "min(" : "max (") + sum(deep - 1) + "," + sum(deep - 1) + ")";
        }
        return PARTS[upTo(PARTS.length - 1)];
    }

    private String test(int deep) {
        StringBuilder s = new StringBuilder(fact(deep));
        while (chance(30)) {
            s.append(chance(50) ? " and " : " or ").append(fact(deep));
        }
        return s.toString();
    }

    private String fact(int deep) {
        if (deep > 0 && chance(deep > 3 ? 60 : 20)) {
            return "not " + fact(deep - 1);
        }
        if (deep > 0 && chance(20)) {
            return "[" + test(deep - 1) + "]";
        }
        return chance(5) ? "all" : sum(deep) + "<>=".charAt(upTo(2)) + sum(deep);
    }

    private String name() {
        if (chance(4)) {
            return chance(50) ? "ann" : "bob";
        }
        StringBuilder s = new StringBuilder();
        for (int i = chance(70) ? 3 : upTo(5); i >= 0; i--) {
            s.append(LETTERS.charAt(upTo(25)));
        }
        return s.toString();
    }

    /** A number from least to most, now and then one that can't be. */
    private String number(int least, int most) {
        return (chance(5) ? "0" : "") + (random.nextInt(300) == 0 ? most + 1 + upTo(3) : least + upTo(most - least));
    }

    private String trier(int width) {
        return "trier " + name() + " force " + number(1, 99) + " aim " + number(0, width) + " tires " + number(0, 20) + " coins "
            + number(0, chance(50) ? 9 : 99) + " stays " + number(0, 99) + (chance(40) ? " lady" : "");
    }

    private String statement(int width) {
        switch (upTo(13)) {
            case 0: return "mark " + name() + " at " + number(1, 99);
            case 1: case 2: case 3: return trier(width);
            case 4: case 5: case 6: return "lean when " + test(chance(8) ? 7 : 3);
            case 7: return "bell " + number(1, 99);
            case 8: return "price " + number(1, 9);
            case 9: return "tries " + number(1, 4);
            case 10: return "slack " + number(0, 90);
            case 11: return "crowd " + number(0, 99);
            case 12: return "near " + number(0, 20);
            default: return "comes " + number(0, 9) + " " + number(0, 9) + " " + number(0, 9);
        }
    }

    private String text(int width) {
        StringBuilder s = new StringBuilder();
        int statements = chance(2) ? 200 : chance(10) ? 30 : 3 + upTo(9);
        if (chance(85)) {
            s.append(trier(width)).append(";").append(trier(width)).append("; lean when ").append(test(2)).append(';');
        }
        for (int i = 0; i < statements && s.length() < 1400; i++) {
            s.append(chance(2) ? "bell 1" : statement(width)).append(chance(50) ? "; " : ";");
        }
        if (statements == 200) {
            s.setLength(0);
            for (int i = 69 + upTo(2); i > 0; i--) {
                s.append("bell ").append(1 + upTo(98)).append(";");
            }
        }
        if (chance(35) && s.length() > 0) {
            spoil(s);
        }
        s.setLength(Math.min(1600, s.length()));
        return s.toString();
    }

    private void spoil(StringBuilder s) {
        int at = upTo(s.length() - 1);
        char c = SPOILERS.charAt(upTo(SPOILERS.length() - 1));
        switch (upTo(4)) {
            case 0: s.setLength(at); break;
            case 1: s.setCharAt(at, c); break;
            case 2: s.insert(at, c); break;
            case 3: s.deleteCharAt(at); break;
            default:
                int to = Math.min(s.length(), at + upTo(12));
                s.insert(upTo(s.length() - 1), s.substring(at, to));
        }
    }

    private void tape(int... bytes) {
        for (int at = 0; at < bytes.length; at += 20) {
            int[] f = new int[5];
            for (int i = 0; i < 20; i++) {
                f[i / 4] = f[i / 4] << 8 | (at + i < bytes.length ? bytes[at + i] & 255 : upTo(255));
            }
            say("feed", x.feed(f[0], f[1], f[2], f[3], f[4]), y.feed(f[0], f[1], f[2], f[3], f[4]));
        }
        say("end " + bytes.length, x.end(bytes.length), y.end(bytes.length));
    }

    private void say(String call, long got, long want) {
        calls++;
        told.append(call).append(" = ").append(got).append(got == want ? "\n" : " BUT " + want + "\n");
        Check.due(call, got, want);
    }

    private void say(String call, boolean got, boolean want) {
        say(call, got ? 1 : 0, want ? 1 : 0);
    }

    // ---- runs

    private void go(int kind) {
        int width = kind == 0 ? 5 : 2;
        for (int i = 0; i < 4 && chance(95) && y.has(1) == 0; i++) {
            newFair(width);
        }
        while (calls < 430) {
            switch (upTo(kind == 1 ? 30 : 20)) {
                case 0: if (chance(30)) { newFair(width); } break;
                case 1: case 2: facts(); break;
                case 3: case 4: blows(); break;
                case 5: case 6: trees(width); break;
                case 7: case 8: case 9: seen(); break;
                case 10: images(); break;
                case 11: int s = chance(10) ? -1 - upTo(9) : random.nextInt() >>> 1; say("seed " + s, x.seed(s), y.seed(s)); break;
                case 12: int n = upTo(30) - 3; say("end " + n, x.end(n), y.end(n)); break;
                default: acts();
            }
        }
    }

    private void newFair(int width) {
        for (int i = 0; i < (chance(80) ? 1 : 4) && calls < 340; i++) {
            say("end 0", x.end(0), y.end(0));
            String text = text(width);
            told.append(text).append('\n');
            tape(text.chars().toArray());
            say("fair", x.fair(), y.fair());
            say("fault 0", x.fault(0), y.fault(0));
            say("fault 1", x.fault(1), y.fault(1));
        }
    }

    private void facts() {
        int a = upTo(15) - 1;
        int b = upTo(9) - 1;
        int c = upTo(7) - 1;
        say("has " + a, x.has(a), y.has(a));
        say("letter", x.letter(c % 3, b, c), y.letter(c % 3, b, c));
        say("trier " + b + " " + c, x.trier(b, c), y.trier(b, c));
        say("mark " + c, x.mark(c), y.mark(c));
        int h = upTo(102) - 1;
        say("past " + h, x.past(h), y.past(h));
        int f = upTo(3) - 1;
        say("fault " + f, x.fault(f), y.fault(f));
        say("status " + c, x.status(c), y.status(c));
    }

    private void blows() {
        boolean slack = chance(50);
        int trier = someTrier();
        int off = upTo(11) - 1;
        int k = upTo(5) - 1;
        int force = upTo(101);
        say("high", x.high(trier, k, off, slack), y.high(trier, k, off, slack));
        say("hard " + off + slack, x.hard(off, slack), y.hard(off, slack));
        say("wide " + force + slack, x.wide(force, slack), y.wide(force, slack));
        int crowd = chance(50) ? upTo(30) : upTo(1001) - 1;
        int last = upTo(101) - 1;
        int rings = chance(70) ? upTo(3) : upTo(101) - 1;
        say("leans", x.leans(trier, crowd, k, last, rings), y.leans(trier, crowd, k, last, rings));
    }

    private int someTrier() {
        int all = y.has(1);
        return chance(90) && all > 0 ? upTo(all - 1) : upTo(all + 1) - 1;
    }

    private void trees(int width) {
        int trier = someTrier();
        int other = someTrier();
        int what = upTo(7) - 1;
        say("tree " + trier + " " + what, x.tree(trier, what), y.tree(trier, what));
        say("tree " + trier + " 1", x.tree(trier, 1), y.tree(trier, 1));
        int w = chance(90) ? upTo(1) : upTo(3) - 1;
        say("bet", x.bet(trier, other, w), y.bet(trier, other, w));
        if (chance(width == 5 ? 4 : 20)) {
            say("best " + w, x.best(w), y.best(w));
            say("best 0", x.best(0), y.best(0));
            say("honest " + w, x.honest(w), y.honest(w));
            say("honest 0", x.honest(0), y.honest(0));
        }
    }

    private void acts() {
        int kind = upTo(9);
        if (kind < 5) {
            say("night", x.night(), y.night());
        } else if (kind < 6) {
            int rule = upTo(6) - 1;
            boolean is = chance(50);
            say("rule " + rule + is, x.rule(rule, is), y.rule(rule, is));
        } else if (kind < 7) {
            int what = chance(90) ? upTo(2) : upTo(5) - 1;
            int n = what == 2 ? upTo(10) : upTo(101) - 1;
            say("set " + what + " " + n, x.set(what, n), y.set(what, n));
        } else {
            for (int i = chance(10) ? 22 : 1 + upTo(1); i > 0; i--) {
                say("undo", x.undo(), y.undo());
            }
        }
        int k = upTo(62) - 1;
        int what = upTo(6) - 1;
        say("kept " + k + " " + what, x.kept(k, what), y.kept(k, what));
        say("kept 0 0", x.kept(0, 0), y.kept(0, 0));
        say("has 12", x.has(12), y.has(12));
        say("has 11", x.has(11), y.has(11));
        int mark = upTo(6) - 1;
        int w = chance(90) ? upTo(1) : 2;
        say("reach " + mark + " " + w, x.reach(mark, w), y.reach(mark, w));
    }

    private void seen() {
        if (chance(60)) {
            int trier = someTrier();
            int[] bytes = new int[chance(90) ? 1 + upTo(3) : upTo(5)];
            for (int k = 0; k < bytes.length; k++) {
                bytes[k] = chance(80) ? y.high(trier, k % 4, upTo(chance(80) ? 2 : 9), chance(50)) : upTo(105);
            }
            say("end 0", x.end(0), y.end(0));
            tape(bytes);
            say("see " + trier, x.see(trier), y.see(trier));
        }
        for (int k = -2; k < 5; k++) {
            say("was " + k, x.was(k), y.was(k));
        }
        int what = upTo(4) - 1;
        if (chance(20)) {
            say("strong " + what, x.strong(what), y.strong(what));
        }
        boolean slack = chance(50);
        say("next " + slack, x.next(slack), y.next(slack));
        int trier = someTrier();
        say("clear " + trier, x.clear(trier), y.clear(trier));
    }

    private void images() {
        if (chance(70)) {
            say("image", x.image(), y.image());
        }
        int[] bytes = new int[10];
        for (int k = -1; k <= 10; k++) {
            say("octet " + k, x.octet(k), y.octet(k));
            if (k >= 0 && k < 10) {
                bytes[k] = Math.max(0, y.octet(k));
            }
        }
        if (chance(60)) {
            if (chance(70)) {
                changeImage(bytes);
            }
            say("end 0", x.end(0), y.end(0));
            tape(bytes);
            if (chance(10)) {
                say("end 9", x.end(9), y.end(9));
            }
            say("on", x.on(), y.on());
        }
    }

    /** Other bytes, mostly with the last byte made anew. */
    private void changeImage(int[] bytes) {
        int nights = chance(50) ? 990 + upTo(12) : upTo(1100);
        int takings = chance(70) ? nights * 288 + upTo(2) - 1 : upTo(300000);
        takings = Math.max(0, chance(50) ? takings / 2 : takings);
        bytes[0] = nights >> 8;
        bytes[1] = nights & 255;
        bytes[2] = takings >> 16;
        bytes[3] = takings >> 8 & 255;
        bytes[4] = takings & 255;
        if (chance(30)) {
            bytes[5 + upTo(3)] = upTo(255);
        }
        if (chance(30)) {
            bytes[5] = upTo(64);
        }
        int c = 139;
        for (int i = 0; i < 9; i++) {
            c = (3 * c + bytes[i]) % 253;
        }
        bytes[9] = chance(95) ? c : upTo(255);
    }
}
