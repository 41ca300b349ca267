import java.math.BigInteger;
import java.util.ArrayList;
import java.util.Arrays;
import java.util.List;

/** The document once more, as plainly as can be and without a care for room or time: what ModelTest compares with. */
final class Model {
    static final int NONE = -1;
    private static final List<String> OWN = Arrays.asList(("mark at trier force aim tires coins stays lady lean when bell price"
        + " tries slack crowd near comes tried last rings or and not all min max").split(" "));
    private static final List<String> FACTS = Arrays.asList("crowd", "tried", "last", "lady", "rings", "coins");

    interface Test {
        boolean holds(int[] facts);
    }

    interface Sum {
        long of(int[] facts);
    }

    private static final class Fault extends Exception {
        private static final long serialVersionUID = 1;
        final int kind;
        final int place;

        Fault(int kind, int place) {
            this.kind = kind;
            this.place = place;
        }
    }

    private static final class Trier {
        String name;
        int force;
        int aim;
        int tires;
        int coins;
        int stays;
        int lady;
    }

    private static final class Told {
        List<String> markNames = new ArrayList<>();
        List<Integer> markHeights = new ArrayList<>();
        List<Trier> triers = new ArrayList<>();
        List<Test> rules = new ArrayList<>();
        int statements;
        int bell = 50;
        int price = 1;
        int tries = 3;
        int slack = 20;
        int crowd;
        int near = 3;
        int[] comes = {3, 1, 0};
    }

    /** What can be undone, whole. */
    private static final class State {
        int nights;
        int takings;
        int rules;
        int bell = 50;
        int slack = 20;
        int price = 1;
        List<int[]> kept = new ArrayList<>();

        State copy() {
            State s = new State();
            s.nights = nights;
            s.takings = takings;
            s.rules = rules;
            s.bell = bell;
            s.slack = slack;
            s.price = price;
            s.kept = new ArrayList<>(kept);
            return s;
        }
    }

    private String tape = "";
    private Told told = new Told();
    private State now = new State();
    private List<State> before = new ArrayList<>();
    private int[] fault = {0, NONE};
    private BigInteger seed = BigInteger.ONE;
    private List<Integer> seen = new ArrayList<>();
    private int seenTrier;
    private List<Integer> image = new ArrayList<>();
    private final int[] refused = new int[6];

    // ---- the text

    private static final class Parser {
        final String text;
        int at;
        Told told = new Told();

        Parser(String text) {
            this.text = text;
        }

        char here() {
            return at < text.length() ? text.charAt(at) : 0xffff;
        }

        static boolean isLetter(char c) {
            return c >= 'a' && c <= 'z';
        }

        static boolean isDigit(char c) {
            return c >= '0' && c <= '9';
        }

        /** Blanks; and a word or number that would stick to one just ahead of it is a fault. */
        void blanks() throws Fault {
            int from = at;
            while (here() == ' ' || here() == '\n') {
                at++;
            }
            boolean thing = isLetter(here()) || isDigit(here());
            if (thing && at == from && at > 0 && (isLetter(text.charAt(at - 1)) || isDigit(text.charAt(at - 1)))) {
                throw new Fault(1, at);
            }
        }

        String peekWord() throws Fault {
            blanks();
            int to = at;
            while (to < text.length() && isLetter(text.charAt(to))) {
                to++;
            }
            return text.substring(at, to);
        }

        boolean takeWord(String word) throws Fault {
            if (!peekWord().equals(word)) {
                return false;
            }
            at += word.length();
            return true;
        }

        void needWord(String word) throws Fault {
            if (!takeWord(word)) {
                throw new Fault(1, at);
            }
        }

        boolean takeSign(char sign) throws Fault {
            blanks();
            if (here() != sign) {
                return false;
            }
            at++;
            return true;
        }

        void needSign(char sign) throws Fault {
            if (!takeSign(sign)) {
                throw new Fault(1, at);
            }
        }

        String name() throws Fault {
            String word = peekWord();
            if (word.isEmpty() || OWN.contains(word)) {
                throw new Fault(1, at);
            }
            if (word.length() > 6) {
                throw new Fault(1, at + 6);
            }
            boolean there = told.markNames.contains(word);
            for (Trier t : told.triers) {
                there |= t.name.equals(word);
            }
            if (there) {
                throw new Fault(3, at);
            }
            at += word.length();
            return word;
        }

        int number(int least, int most) throws Fault {
            blanks();
            int from = at;
            while (isDigit(here())) {
                if (at == from + 4) {
                    throw new Fault(1, at);
                }
                at++;
            }
            if (at == from) {
                throw new Fault(1, at);
            }
            int n = Integer.parseInt(text.substring(from, at));
            if (n < least || n > most) {
                throw new Fault(2, from);
            }
            return n;
        }

        Told all() throws Fault {
            for (;;) {
                blanks();
                if (at == text.length()) {
                    return told;
                }
                if (told.statements == 70) {
                    throw new Fault(5, at);
                }
                statement();
                needSign(';');
                told.statements++;
            }
        }

        void statement() throws Fault {
            String word = peekWord();
            int from = at;
            if (word.equals("mark") && told.markNames.size() == 6 || word.equals("trier") && told.triers.size() == 8
                    || word.equals("lean") && told.rules.size() == 6) {
                throw new Fault(5, from);
            }
            at += word.length();
            switch (word) {
                case "mark":
                    String name = name();
                    needWord("at");
                    told.markHeights.add(number(1, 99));
                    told.markNames.add(name);
                    break;
                case "trier":
                    trier();
                    break;
                case "lean":
                    needWord("when");
                    told.rules.add(test(0));
                    break;
                case "bell": told.bell = number(1, 99); break;
                case "price": told.price = number(1, 9); break;
                case "tries": told.tries = number(1, 4); break;
                case "slack": told.slack = number(0, 90); break;
                case "crowd": told.crowd = number(0, 99); break;
                case "near": told.near = number(0, 20); break;
                case "comes": told.comes = new int[] {number(0, 9), number(0, 9), number(0, 9)}; break;
                default: throw new Fault(1, from);
            }
        }

        void trier() throws Fault {
            Trier t = new Trier();
            t.name = name();
            needWord("force");
            t.force = number(1, 99);
            needWord("aim");
            t.aim = number(0, 5);
            needWord("tires");
            t.tires = number(0, 20);
            needWord("coins");
            t.coins = number(0, 99);
            needWord("stays");
            t.stays = number(0, 99);
            t.lady = takeWord("lady") ? 1 : 0;
            told.triers.add(t);
        }

        Test test(int open) throws Fault {
            Test left = both(open);
            while (takeWord("or")) {
                Test one = left;
                Test other = both(open);
                left = f -> one.holds(f) || other.holds(f);
            }
            return left;
        }

        Test both(int open) throws Fault {
            Test left = fact(open);
            while (takeWord("and")) {
                Test one = left;
                Test other = fact(open);
                left = f -> one.holds(f) && other.holds(f);
            }
            return left;
        }

        int opened(int open, int from) throws Fault {
            if (open == 6) {
                throw new Fault(4, from);
            }
            return open + 1;
        }

        Test fact(int open) throws Fault {
            blanks();
            int from = at;
            if (takeWord("not")) {
                Test inner = fact(opened(open, from));
                return f -> !inner.holds(f);
            }
            if (takeSign('[')) {
                Test inner = test(opened(open, from));
                needSign(']');
                return inner;
            }
            if (takeWord("all")) {
                return f -> true;
            }
            Sum left = sum(open);
            if (takeSign('<')) {
                Sum right = sum(open);
                return f -> left.of(f) < right.of(f);
            }
            if (takeSign('>')) {
                Sum right = sum(open);
                return f -> left.of(f) > right.of(f);
            }
            needSign('=');
            Sum right = sum(open);
            return f -> left.of(f) == right.of(f);
        }

        static long held(long n) {
            return n > 1000000 ? 1000000 : n < -1000000 ? -1000000 : n;
        }

        Sum sum(int open) throws Fault {
            Sum left = product(open);
            for (;;) {
                Sum one = left;
                if (takeSign('+')) {
                    Sum other = product(open);
                    left = f -> held(one.of(f) + other.of(f));
                } else if (takeSign('-')) {
                    Sum other = product(open);
                    left = f -> held(one.of(f) - other.of(f));
                } else {
                    return left;
                }
            }
        }

        Sum product(int open) throws Fault {
            Sum left = part(open);
            for (;;) {
                Sum one = left;
                if (takeSign('*')) {
                    Sum other = part(open);
                    left = f -> held(one.of(f) * other.of(f));
                } else if (takeSign('/')) {
                    Sum other = part(open);
                    left = f -> other.of(f) == 0 ? 0 : (long) Math.floor((double) one.of(f) / other.of(f));
                } else {
                    return left;
                }
            }
        }

        Sum part(int open) throws Fault {
            String word = peekWord();
            int from = at;
            if (isDigit(here())) {
                int n = number(0, 9999);
                return f -> n;
            }
            if (FACTS.contains(word)) {
                at += word.length();
                int fact = FACTS.indexOf(word);
                return f -> f[fact];
            }
            if (word.equals("min") || word.equals("max")) {
                at += word.length();
                blanks();
                from = at;
                needSign('(');
                int deeper = opened(open, from);
                Sum one = sum(deeper);
                needSign(',');
                Sum other = sum(deeper);
                needSign(')');
                return word.equals("min") ? f -> Math.min(one.of(f), other.of(f)) : f -> Math.max(one.of(f), other.of(f));
            }
            needSign('(');
            Sum inner = sum(opened(open, from));
            needSign(')');
            return inner;
        }
    }

    int feed(int a, int b, int c, int d, int e) {
        if (tape.length() + 20 > 1600) {
            refused[0]++;
            return NONE;
        }
        for (int n : new int[] {a, b, c, d, e}) {
            tape += "" + (char) (n >>> 24) + (char) (n >>> 16 & 255) + (char) (n >>> 8 & 255) + (char) (n & 255);
        }
        return tape.length();
    }

    boolean end(int n) {
        if (n < 0 || n > tape.length()) {
            refused[0]++;
            return false;
        }
        tape = tape.substring(0, n);
        return true;
    }

    int fair() {
        Parser parser = new Parser(tape);
        tape = "";
        try {
            told = parser.all();
        } catch (Fault f) {
            fault = new int[] {f.kind, f.place};
            refused[1]++;
            return NONE;
        }
        fault = new int[] {0, NONE};
        now = new State();
        now.rules = (1 << told.rules.size()) - 1;
        now.bell = told.bell;
        now.slack = told.slack;
        now.price = told.price;
        before.clear();
        seen.clear();
        return told.statements;
    }

    int fault(int what) {
        return what == 0 || what == 1 ? fault[what] : NONE;
    }

    int has(int what) {
        int[] all = {told.markNames.size(), told.triers.size(), told.rules.size(), now.rules, now.bell, now.price, told.tries,
            now.slack, told.crowd, told.near, now.nights, now.takings, Math.min(60, now.kept.size()), before.size()};
        return what < 0 || what >= all.length ? NONE : all[what];
    }

    int letter(int kind, int which, int k) {
        List<String> names = new ArrayList<>();
        if (kind == 0) {
            names = told.markNames;
        } else if (kind == 1) {
            for (Trier t : told.triers) {
                names.add(t.name);
            }
        }
        if (which < 0 || which >= names.size() || k < 0 || k > 5) {
            return NONE;
        }
        return k < names.get(which).length() ? names.get(which).charAt(k) - 'a' + 1 : 0;
    }

    private boolean no(int trier) {
        return trier < 0 || trier >= told.triers.size();
    }

    int trier(int trier, int what) {
        if (no(trier) || what < 0 || what > 5) {
            return NONE;
        }
        Trier t = told.triers.get(trier);
        return new int[] {t.force, t.aim, t.tires, t.coins, t.stays, t.lady}[what];
    }

    int mark(int mark) {
        return mark < 0 || mark >= told.markHeights.size() ? NONE : told.markHeights.get(mark);
    }

    int past(int height) {
        int best = NONE;
        for (int h = 0; h <= height && height <= 99; h++) {
            int first = told.markHeights.indexOf(h);
            best = first >= 0 ? first : best;
        }
        return best;
    }

    // ---- blows

    private static int rise(int force, int off, int slack) {
        BigInteger tight = BigInteger.valueOf((long) force * (100 - 10 * off)).divide(BigInteger.valueOf(100));
        return tight.multiply(BigInteger.valueOf(100 - slack)).divide(BigInteger.valueOf(100)).intValue();
    }

    private int height(int force, int tires, int blows, int off, boolean slack) {
        int left = force - blows * tires;
        int h = rise(left < 1 ? 1 : left, off, slack ? now.slack : 0);
        return h >= now.bell ? now.bell : h;
    }

    int high(int trier, int blows, int off, boolean slack) {
        if (no(trier) || blows < 0 || blows > 3 || off < 0 || off > 9) {
            return NONE;
        }
        return height(told.triers.get(trier).force, told.triers.get(trier).tires, blows, off, slack);
    }

    int hard(int off, boolean slack) {
        for (int f = 1; f <= 99 && off >= 0 && off <= 9; f++) {
            if (height(f, 0, 0, off, slack) == now.bell) {
                return f;
            }
        }
        return NONE;
    }

    int wide(int force, boolean slack) {
        int best = NONE;
        for (int off = 0; off <= 9 && force >= 1 && force <= 99; off++) {
            best = height(force, 0, 0, off, slack) == now.bell ? off : best;
        }
        return best;
    }

    private boolean leaning(int... facts) {
        for (int r = 0; r < told.rules.size(); r++) {
            if ((now.rules >> r & 1) == 1 && told.rules.get(r).holds(facts)) {
                return true;
            }
        }
        return false;
    }

    int leans(int trier, int crowd, int tried, int last, int rings) {
        if (no(trier) || crowd < 0 || crowd > 999 || tried < 0 || tried > 3 || last < 0 || last > 99 || rings < 0 || rings > 99) {
            return NONE;
        }
        Trier t = told.triers.get(trier);
        return leaning(crowd, tried, last, t.lady, rings, t.coins) ? 1 : 0;
    }

    // ---- turns, trees

    interface Offs {
        int next(int blows);
    }

    /** A turn as it goes: each blow is {off, slack, height}. */
    private final class Turn {
        int crowd;
        int rings;
        int paid;
        boolean leant;
        List<int[]> blows = new ArrayList<>();

        void go(Trier t, Offs offs) {
            int coins = t.coins;
            while (blows.size() < told.tries && coins >= now.price) {
                int last = blows.isEmpty() ? 0 : blows.get(blows.size() - 1)[2];
                if (!blows.isEmpty() && (last == now.bell || now.bell - last > t.stays)) {
                    break;
                }
                boolean slack = leaning(crowd, blows.size(), last, t.lady, rings, coins);
                leant |= slack;
                coins -= now.price;
                paid += now.price;
                int off = offs.next(blows.size());
                int h = height(t.force, t.tires, blows.size(), off, slack);
                blows.add(new int[] {off, slack ? 1 : 0, h});
                int kind = h == now.bell ? 0 : now.bell - h <= told.near ? 1 : 2;
                rings += kind == 0 ? 1 : 0;
                crowd = Math.min(999, crowd + told.comes[kind]);
            }
        }
    }

    private static int power(int m, int n) {
        return n == 0 ? 1 : m * power(m, n - 1);
    }

    /** Sums over all rows of offs, as many as there are tries: {rows, rings, paid, fewest, most, leant, crowd}. */
    private long[] rows(Trier t) {
        int m = t.aim + 1;
        int rows = power(m, told.tries);
        long[] sums = {rows, 0, 0, 99, 0, 0, 0};
        for (int row = 0; row < rows; row++) {
            int digits = row;
            Turn turn = new Turn();
            turn.crowd = told.crowd;
            turn.go(t, k -> digits / power(m, k) % m);
            sums[1] += turn.rings;
            sums[2] += turn.paid;
            sums[3] = Math.min(sums[3], turn.blows.size());
            sums[4] = Math.max(sums[4], turn.blows.size());
            sums[5] += turn.leant ? 1 : 0;
            sums[6] += turn.crowd;
        }
        return sums;
    }

    int tree(int trier, int what) {
        if (no(trier) || what < 0 || what > 5) {
            return NONE;
        }
        long[] s = rows(told.triers.get(trier));
        return (int) (what == 2 || what == 3 ? s[what + 1] : s[new int[] {1, 2, 0, 0, 5, 6}[what]] * 1000 / s[0]);
    }

    /** All triers' leaves as {above, below}. */
    private BigInteger[] leaves() {
        BigInteger above = BigInteger.ZERO;
        BigInteger below = BigInteger.ONE;
        for (Trier t : told.triers) {
            long[] s = rows(t);
            above = above.multiply(BigInteger.valueOf(s[0])).add(below.multiply(BigInteger.valueOf(s[2])));
            below = below.multiply(BigInteger.valueOf(s[0]));
        }
        return new BigInteger[] {above, below};
    }

    private static boolean isMore(BigInteger[] a, BigInteger[] b) {
        return b == null || a[0].multiply(b[1]).compareTo(b[0].multiply(a[1])) > 0;
    }

    private static int thousandths(BigInteger[] a) {
        return a[0].multiply(BigInteger.valueOf(1000)).divide(a[1]).intValue();
    }

    int best(int what) {
        if (what != 0 && what != 1) {
            return NONE;
        }
        State real = now;
        now = real.copy();
        int winner = NONE;
        BigInteger[] most = null;
        for (int bits = 0; bits < 1 << told.rules.size(); bits++) {
            now.rules = bits;
            BigInteger[] all = leaves();
            if (isMore(all, most)) {
                most = all;
                winner = bits;
            }
        }
        now = real;
        return what == 0 ? winner : thousandths(most);
    }

    int honest(int what) {
        if (what != 0 && what != 1) {
            return NONE;
        }
        State real = now;
        now = real.copy();
        now.rules = 0;
        int winner = NONE;
        BigInteger[] most = null;
        for (int bell = 1; bell <= 99; bell++) {
            now.bell = bell;
            BigInteger[] all = leaves();
            if (isMore(all, most)) {
                most = all;
                winner = bell;
            }
        }
        now = real;
        return what == 0 ? winner : thousandths(most);
    }

    int bet(int first, int second, int what) {
        if (no(first) || no(second) || first == second || what < 0 || what > 1) {
            return NONE;
        }
        Trier a = told.triers.get(first);
        Trier b = told.triers.get(second);
        int[] count = new int[3];
        for (int i = 0; i <= a.aim; i++) {
            for (int j = 0; j <= b.aim; j++) {
                int sign = Integer.signum(rise(a.force, i, 0) - rise(b.force, j, 0));
                count[sign > 0 ? 0 : sign == 0 ? 1 : 2]++;
            }
        }
        return 1000 * count[what] / (count[0] + count[1] + count[2]);
    }

    // ---- acts

    private void act() {
        before.add(now.copy());
        if (before.size() > 20) {
            before.remove(0);
        }
    }

    private int draw(int m) {
        seed = seed.multiply(BigInteger.valueOf(1103515245)).add(BigInteger.valueOf(12345)).mod(BigInteger.ONE.shiftLeft(31));
        return seed.divide(BigInteger.valueOf(64)).mod(BigInteger.valueOf(m)).intValue();
    }

    int night() {
        if (now.nights == 999) {
            refused[2]++;
            return NONE;
        }
        act();
        now.nights++;
        int paid = 0;
        int crowd = told.crowd;
        int rings = 0;
        for (int i = 0; i < told.triers.size(); i++) {
            Trier t = told.triers.get(i);
            Turn turn = new Turn();
            turn.crowd = crowd;
            turn.rings = rings;
            turn.go(t, k -> draw(t.aim + 1));
            crowd = turn.crowd;
            rings = turn.rings;
            paid += turn.paid;
            for (int[] b : turn.blows) {
                now.kept.add(new int[] {now.nights, i, b[0], b[1], b[2]});
            }
        }
        now.takings += paid;
        return paid;
    }

    boolean rule(int rule, boolean is) {
        if (rule < 0 || rule >= told.rules.size() || (now.rules >> rule & 1) == (is ? 1 : 0)) {
            refused[3]++;
            return false;
        }
        act();
        now.rules += is ? 1 << rule : -(1 << rule);
        return true;
    }

    int set(int what, int n) {
        boolean can = what == 0 && n >= 1 && n <= 99 || what == 1 && n >= 0 && n <= 90 || what == 2 && n >= 1 && n <= 9;
        if (!can) {
            refused[3]++;
            return NONE;
        }
        act();
        int old = what == 0 ? now.bell : what == 1 ? now.slack : now.price;
        if (what == 0) {
            now.bell = n;
        } else if (what == 1) {
            now.slack = n;
        } else {
            now.price = n;
        }
        return old;
    }

    boolean undo() {
        if (before.isEmpty()) {
            refused[4]++;
            return false;
        }
        now = before.remove(before.size() - 1);
        return true;
    }

    boolean seed(int n) {
        if (n < 0) {
            refused[5]++;
            return false;
        }
        seed = BigInteger.valueOf(n);
        return true;
    }

    private List<int[]> toldAsKept() {
        return now.kept.subList(Math.max(0, now.kept.size() - 60), now.kept.size());
    }

    int kept(int k, int what) {
        return k < 0 || k >= toldAsKept().size() || what < 0 || what > 4 ? NONE : toldAsKept().get(k)[what];
    }

    // ---- what was seen

    boolean see(int trier) {
        String bytes = tape;
        tape = "";
        boolean can = !no(trier) && bytes.length() >= 1 && bytes.length() <= 4;
        for (char c : bytes.toCharArray()) {
            can &= c <= now.bell;
        }
        if (!can) {
            refused[1]++;
            return false;
        }
        seen.clear();
        for (char c : bytes.toCharArray()) {
            seen.add((int) c);
        }
        seenTrier = trier;
        return true;
    }

    /** Ways, one by one: {all, those with blow 0 slack, blow 1, ..}. */
    private int[] ways(int force) {
        Trier t = told.triers.get(seenTrier);
        int one = 2 * (t.aim + 1);
        int[] count = new int[1 + seen.size()];
        for (int way = 0; way < power(one, seen.size()); way++) {
            boolean just = true;
            for (int k = 0; k < seen.size() && just; k++) {
                int choice = way / power(one, k) % one;
                just = height(force, t.tires, k, choice / 2, choice % 2 == 1) == seen.get(k);
            }
            count[0] += just ? 1 : 0;
            for (int k = 0; k < seen.size() && just; k++) {
                count[1 + k] += way / power(one, k) % one % 2;
            }
        }
        return count;
    }

    int was(int k) {
        if (seen.isEmpty() || k < -1 || k >= seen.size()) {
            return NONE;
        }
        int[] count = ways(told.triers.get(seenTrier).force);
        return k == -1 ? count[0] : count[0] == 0 ? 0 : (int) (1000L * count[1 + k] / count[0]);
    }

    int strong(int what) {
        if (seen.isEmpty() || what < 0 || what > 2) {
            return NONE;
        }
        List<Integer> forces = new ArrayList<>();
        for (int f = 1; f <= 99; f++) {
            if (ways(f)[0] > 0) {
                forces.add(f);
            }
        }
        if (what == 0) {
            return forces.size();
        }
        return forces.isEmpty() ? NONE : forces.get(what == 1 ? 0 : forces.size() - 1);
    }

    int next(boolean slack) {
        if (seen.isEmpty() || seen.size() >= told.tries) {
            return NONE;
        }
        Trier t = told.triers.get(seenTrier);
        int rings = 0;
        for (int off = 0; off <= t.aim; off++) {
            rings += height(t.force, t.tires, seen.size(), off, slack) == now.bell ? 1 : 0;
        }
        return 1000 * rings / (t.aim + 1);
    }

    int clear(int trier) {
        int best = NONE;
        for (int widest = 0; widest <= 9 && !no(trier); widest++) {
            boolean clear = true;
            for (int i = 0; i <= widest; i++) {
                for (int j = 0; j <= widest; j++) {
                    clear &= high(trier, 0, i, false) != high(trier, 0, j, true);
                }
            }
            best = clear ? widest : best;
        }
        return best;
    }

    int reach(int mark, int what) {
        if (mark < 0 || mark >= told.markNames.size() || what < 0 || what > 1) {
            return NONE;
        }
        int[] by = new int[8];
        int all = 0;
        for (int[] b : toldAsKept()) {
            if (past(b[4]) == mark) {
                by[b[1]]++;
                all++;
            }
        }
        int first = 0;
        for (int i = 1; i < 8; i++) {
            first = by[i] > by[first] ? i : first;
        }
        return what == 0 ? all : all == 0 ? NONE : first;
    }

    // ---- images, refusals

    private static int check(List<Integer> bytes) {
        int c = 139;
        for (int b : bytes) {
            c = (3 * c + b) % 253;
        }
        return c;
    }

    int image() {
        image = new ArrayList<>(Arrays.asList(now.nights / 256, now.nights % 256, now.takings / 65536, now.takings / 256 % 256,
            now.takings % 256, now.rules, now.bell, now.slack, now.price));
        image.add(check(image));
        return image.size();
    }

    int octet(int k) {
        return k < 0 || k >= image.size() ? NONE : image.get(k);
    }

    boolean on() {
        List<Integer> b = new ArrayList<>();
        for (char c : tape.toCharArray()) {
            b.add((int) c);
        }
        tape = "";
        boolean can = b.size() == 10 && check(b.subList(0, 9)) == b.get(9);
        if (can) {
            int nights = b.get(0) * 256 + b.get(1);
            int takings = b.get(2) * 65536 + b.get(3) * 256 + b.get(4);
            can = nights <= 999 && takings <= 288 * nights && b.get(5) < 1 << told.rules.size()
                && b.get(6) >= 1 && b.get(6) <= 99 && b.get(7) <= 90 && b.get(8) >= 1 && b.get(8) <= 9;
            if (can) {
                now = new State();
                now.nights = nights;
                now.takings = takings;
                now.rules = b.get(5);
                now.bell = b.get(6);
                now.slack = b.get(7);
                now.price = b.get(8);
                before.clear();
            }
        }
        if (!can) {
            refused[5]++;
        }
        return can;
    }

    int status(int what) {
        return what < 0 || what > 5 ? NONE : refused[what];
    }
}
