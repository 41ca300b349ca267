import java.util.Arrays;

/** A fair with a hammer and a bell, told as a text; ../shared/DOC.md says what each call answers. */
public final class BellHammer {
    public static final int NONE = -1;

    private static final int MOST_BYTES = 1600;
    private static final int MOST_STATEMENTS = 70;
    private static final int MOST_MARKS = 6;
    private static final int MOST_TRIERS = 8;
    private static final int MOST_RULES = 6;
    private static final int MOST_BLOWS = 4;
    private static final int MOST_OFF = 9;
    private static final int MOST_HEIGHT = 99;
    private static final int MOST_FORCE = 99;
    private static final int MOST_PEOPLE = 999;
    private static final int MOST_RINGS = 99;
    private static final int MOST_NIGHTS = 999;
    private static final int MOST_TAKINGS_A_NIGHT = 288;
    private static final int NAME_LETTERS = 6;

    /** What one tells of a trier, in the order of trier(). */
    private static final int FORCE = 0;
    private static final int AIM = 1;
    private static final int TIRES = 2;
    private static final int COINS = 3;
    private static final int STAYS = 4;
    private static final int LADY = 5;
    private static final int TRAITS = 6;
    private static final int[] TRAIT_LEAST = {1, 0, 0, 0, 0};
    private static final int[] TRAIT_MOST = {99, 5, 20, 99, 99};

    /** Numbers of the whole fair; the first three are those that set() may change, in its order. */
    private static final int BELL = 0;
    private static final int SLACK = 1;
    private static final int PRICE = 2;
    private static final int TRIES = 3;
    private static final int CROWD = 4;
    private static final int NEAR = 5;
    private static final int COMES = 6;
    private static final int SETTINGS = 9;
    private static final int SETTABLE = 3;
    private static final int[] SETTING_UNTOLD = {50, 20, 1, 3, 0, 3, 3, 1, 0};
    private static final int[] SETTING_LEAST = {1, 0, 1, 1, 0, 0, 0, 0, 0};
    private static final int[] SETTING_MOST = {99, 90, 9, 4, 99, 20, 9, 9, 9};

    private static final int FEED = 0;
    private static final int TEXT = 1;
    private static final int NIGHT = 2;
    private static final int CHANGE = 3;
    private static final int UNDO = 4;
    private static final int STATE = 5;
    private static final int REFUSALS = 6;

    private static final int IMAGE_BYTES = 10;

    private final Tape tape;
    private final Parser parser;
    private final Book book;
    private final Showman showman;
    private final Turn turn;
    private final Tree tree;
    private Fair fair;
    private final int[] seen;
    private int seenBlows;
    private int seenTrier;
    private final int[] image;
    private int imageBytes;
    private final int[] refused;

    public BellHammer() {
        tape = new Tape();
        parser = new Parser();
        book = new Book();
        showman = new Showman();
        turn = new Turn();
        tree = new Tree();
        fair = new Fair();
        seen = new int[MOST_BLOWS];
        image = new int[IMAGE_BYTES];
        refused = new int[REFUSALS];
    }

    // ---- the text

    public int feed(int a, int b, int c, int d, int e) {
        if (tape.size + 20 > MOST_BYTES) {
            refused[FEED]++;
            return NONE;
        }
        tape.add(a);
        tape.add(b);
        tape.add(c);
        tape.add(d);
        tape.add(e);
        return tape.size;
    }

    public boolean end(int n) {
        if (n < 0 || n > tape.size) {
            refused[FEED]++;
            return false;
        }
        tape.size = n;
        return true;
    }

    public int fair() {
        boolean right = parser.parse(tape.bytes, tape.size);
        tape.size = 0;
        if (!right) {
            refused[TEXT]++;
            return NONE;
        }
        Fair old = fair;
        fair = parser.draft;
        parser.draft = old;
        book.open(fair);
        seenBlows = 0;
        return fair.statements;
    }

    public int fault(int what) {
        if (what == 0) {
            return parser.fault;
        }
        return what == 1 ? parser.place : NONE;
    }

    public int has(int what) {
        switch (what) {
            case 0: return fair.marks;
            case 1: return fair.triers;
            case 2: return fair.rules;
            case 3: return book.inForce;
            case 4: return book.now[BELL];
            case 5: return book.now[PRICE];
            case 6: return fair.settings[TRIES];
            case 7: return book.now[SLACK];
            case 8: return fair.settings[CROWD];
            case 9: return fair.settings[NEAR];
            case 10: return book.nights;
            case 11: return book.takings;
            case 12: return book.toldBlows();
            case 13: return book.acts;
            default: return NONE;
        }
    }

    public int letter(int kind, int which, int k) {
        if (k < 0 || k >= NAME_LETTERS) {
            return NONE;
        }
        if (kind == 0 && isMark(which)) {
            return letterOf(fair.markName[which], k);
        }
        if (kind == 1 && isTrier(which)) {
            return letterOf(fair.trierName[which], k);
        }
        return NONE;
    }

    public int trier(int trier, int what) {
        if (!isTrier(trier) || what < 0 || what >= TRAITS) {
            return NONE;
        }
        return fair.trait(trier, what);
    }

    public int mark(int mark) {
        return isMark(mark) ? fair.markHeight[mark] : NONE;
    }

    public int past(int height) {
        return height < 0 || height > MOST_HEIGHT ? NONE : fair.markOf(height);
    }

    // ---- blows

    public int high(int trier, int blows, int off, boolean slack) {
        if (!isTrier(trier) || blows < 0 || blows >= MOST_BLOWS || !isOff(off)) {
            return NONE;
        }
        turn.load(fair, trier, book.now);
        return turn.height(blows, off, slack);
    }

    public int hard(int off, boolean slack) {
        if (!isOff(off)) {
            return NONE;
        }
        for (int force = 1; force <= MOST_FORCE; force++) {
            if (wouldRing(force, off, slack)) {
                return force;
            }
        }
        return NONE;
    }

    public int wide(int force, boolean slack) {
        if (force < 1 || force > MOST_FORCE) {
            return NONE;
        }
        for (int off = MOST_OFF; off >= 0; off--) {
            if (wouldRing(force, off, slack)) {
                return off;
            }
        }
        return NONE;
    }

    public int leans(int trier, int crowd, int tried, int last, int rings) {
        boolean can = isTrier(trier) && isWithin(crowd, MOST_PEOPLE) && isWithin(tried, MOST_BLOWS - 1)
                && isWithin(last, MOST_HEIGHT) && isWithin(rings, MOST_RINGS);
        if (!can) {
            return NONE;
        }
        showman.look(crowd, tried, last, rings);
        showman.lookAt(fair.trait(trier, LADY), fair.trait(trier, COINS));
        return (showman.rulesThatHold(fair) & book.inForce) != 0 ? 1 : 0;
    }

    // ---- trees

    public int tree(int trier, int what) {
        if (!isTrier(trier)) {
            return NONE;
        }
        tree.turn.load(fair, trier, book.now);
        tree.walk(fair, book.inForce);
        return tree.fact(what);
    }

    public int best(int what) {
        if (what != 0 && what != 1) {
            return NONE;
        }
        tree.weighRules(fair, book.now);
        return what == 0 ? tree.winner : tree.winnerLeaves(book.now[PRICE]);
    }

    public int honest(int what) {
        if (what != 0 && what != 1) {
            return NONE;
        }
        tree.weighBells(fair, book.now);
        return what == 0 ? tree.winner : tree.winnerLeaves(book.now[PRICE]);
    }

    public int bet(int first, int second, int what) {
        if (!isTrier(first) || !isTrier(second) || first == second || (what != 0 && what != 1)) {
            return NONE;
        }
        int pairs = (fair.trait(first, AIM) + 1) * (fair.trait(second, AIM) + 1);
        if (pairs <= 0) {
            return NONE;
        }
        return 1000 * wonPairs(first, second, what) / pairs;
    }

    // ---- acts

    public int night() {
        if (book.nights >= MOST_NIGHTS) {
            refused[NIGHT]++;
            return NONE;
        }
        int before = book.takings;
        book.startNight(fair.settings[CROWD]);
        for (int trier = 0; trier < fair.triers; trier++) {
            turn.load(fair, trier, book.now);
            haveTurn(trier);
        }
        return book.takings - before;
    }

    public boolean rule(int rule, boolean is) {
        if (rule < 0 || rule >= fair.rules || book.isInForce(rule) == is) {
            refused[CHANGE]++;
            return false;
        }
        book.turnRule(rule);
        return true;
    }

    public int set(int what, int n) {
        if (what < 0 || what >= SETTABLE || n < SETTING_LEAST[what] || n > SETTING_MOST[what]) {
            refused[CHANGE]++;
            return NONE;
        }
        return book.change(what, n);
    }

    public boolean undo() {
        if (book.acts == 0) {
            refused[UNDO]++;
            return false;
        }
        book.takeBack();
        return true;
    }

    public boolean seed(int seed) {
        if (seed < 0) {
            refused[STATE]++;
            return false;
        }
        book.seed = seed;
        return true;
    }

    public int kept(int k, int what) {
        if (k < 0 || k >= book.toldBlows() || what < 0 || what > Book.HEIGHT) {
            return NONE;
        }
        return book.told(k, what);
    }

    // ---- what was seen

    public boolean see(int trier) {
        int bytes = tape.size;
        tape.size = 0;
        if (!isTrier(trier) || !canBeSeen(bytes)) {
            refused[TEXT]++;
            return false;
        }
        for (int k = 0; k < bytes; k++) {
            seen[k] = tape.bytes[k];
        }
        seenBlows = bytes;
        seenTrier = trier;
        return true;
    }

    public int was(int k) {
        if (seenBlows == 0 || k < NONE || k >= seenBlows) {
            return NONE;
        }
        turn.load(fair, seenTrier, book.now);
        int all = waysSeen();
        if (k == NONE) {
            return all;
        }
        int slackOnes = waysOfBlow(k, true);
        int both = slackOnes + waysOfBlow(k, false);
        // The other blows' ways stand above and below alike, so the k-th blow's own are enough.
        return all == 0 || both == 0 ? 0 : 1000 * slackOnes / both;
    }

    public int strong(int what) {
        if (seenBlows == 0 || what < 0 || what > 2) {
            return NONE;
        }
        turn.load(fair, seenTrier, book.now);
        int forces = 0;
        int least = NONE;
        int greatest = NONE;
        for (int force = 1; force <= MOST_FORCE; force++) {
            turn.force = force;
            if (waysSeen() > 0) {
                forces++;
                least = least == NONE ? force : least;
                greatest = force;
            }
        }
        if (what == 0) {
            return forces;
        }
        return what == 1 ? least : greatest;
    }

    public int next(boolean slack) {
        if (seenBlows == 0 || seenBlows >= fair.settings[TRIES]) {
            return NONE;
        }
        turn.load(fair, seenTrier, book.now);
        int rings = 0;
        for (int off = 0; off <= turn.aim; off++) {
            if (turn.isRing(turn.height(seenBlows, off, slack))) {
                rings++;
            }
        }
        int offs = turn.aim + 1;
        return offs <= 0 ? NONE : 1000 * rings / offs;
    }

    public int clear(int trier) {
        if (!isTrier(trier)) {
            return NONE;
        }
        turn.load(fair, trier, book.now);
        int widest = NONE;
        for (int off = 0; off <= MOST_OFF && isTellingOff(off); off++) {
            widest = off;
        }
        return widest;
    }

    public int reach(int mark, int what) {
        if (!isMark(mark) || (what != 0 && what != 1)) {
            return NONE;
        }
        if (what == 0) {
            int all = 0;
            for (int trier = 0; trier < fair.triers; trier++) {
                all += blowsAt(mark, trier);
            }
            return all;
        }
        int most = 0;
        int first = NONE;
        for (int trier = 0; trier < fair.triers; trier++) {
            int blows = blowsAt(mark, trier);
            if (blows > most) {
                most = blows;
                first = trier;
            }
        }
        return first;
    }

    // ---- images, refusals

    public int image() {
        book.write(image);
        imageBytes = IMAGE_BYTES;
        return imageBytes;
    }

    public int octet(int k) {
        return k < 0 || k >= imageBytes ? NONE : image[k];
    }

    public boolean on() {
        int bytes = tape.size;
        tape.size = 0;
        if (bytes != IMAGE_BYTES || !book.takeOver(tape.bytes, fair.rules)) {
            refused[STATE]++;
            return false;
        }
        return true;
    }

    public int status(int what) {
        return what < 0 || what >= REFUSALS ? NONE : refused[what];
    }

    // ---- what several calls share

    private boolean isMark(int mark) {
        return mark >= 0 && mark < fair.marks;
    }

    private boolean isTrier(int trier) {
        return trier >= 0 && trier < fair.triers;
    }

    private static boolean isOff(int off) {
        return isWithin(off, MOST_OFF);
    }

    private static boolean isWithin(int n, int most) {
        return n >= 0 && n <= most;
    }

    /** How high a blow goes when no bell is in its way; a tight wire has slack 0. */
    private static int rise(int force, int off, int slack) {
        int tight = force * (100 - 10 * off) / 100;
        return tight * (100 - slack) / 100;
    }

    private boolean wouldRing(int force, int off, boolean slack) {
        return rise(force, off, slack ? book.now[SLACK] : 0) >= book.now[BELL];
    }

    /** Pairs of offs by which the first one's blow is higher (what 0) or as high (1). */
    private int wonPairs(int first, int second, int what) {
        int won = 0;
        for (int i = 0; i <= fair.trait(first, AIM); i++) {
            int one = rise(fair.trait(first, FORCE), i, 0);
            for (int j = 0; j <= fair.trait(second, AIM); j++) {
                int other = rise(fair.trait(second, FORCE), j, 0);
                if (what == 0 ? one > other : one == other) {
                    won++;
                }
            }
        }
        return won;
    }

    /** The blows of the trier whose turn is loaded, in the night that has begun. */
    private void haveTurn(int trier) {
        int last = 0;
        for (int blows = 0; blows < MOST_BLOWS && turn.goesOn(blows, last); blows++) {
            showman.look(book.crowd, blows, last, book.rings);
            showman.lookAt(turn.lady, turn.coinsBehind(blows));
            boolean slack = (showman.rulesThatHold(fair) & book.inForce) != 0;
            int off = book.draw(turn.aim + 1);
            last = turn.height(blows, off, slack);
            book.keep(trier, off, slack, last);
            book.rings += turn.isRing(last) ? 1 : 0;
            book.crowd = Math.min(MOST_PEOPLE, book.crowd + turn.brings(last));
        }
    }

    private boolean canBeSeen(int bytes) {
        if (bytes < 1 || bytes > MOST_BLOWS) {
            return false;
        }
        for (int k = 0; k < bytes; k++) {
            if (tape.bytes[k] > book.now[BELL]) {
                return false;
            }
        }
        return true;
    }

    /** Ways of all blows that are seen, of the trier whose turn is loaded. */
    private int waysSeen() {
        int ways = 1;
        for (int k = 0; k < seenBlows; k++) {
            ways *= waysOfBlow(k, false) + waysOfBlow(k, true);
        }
        return ways;
    }

    private int waysOfBlow(int k, boolean slack) {
        if (k < 0 || k >= seen.length) {
            return 0;
        }
        int ways = 0;
        for (int off = 0; off <= turn.aim; off++) {
            if (turn.height(k, off, slack) == seen[k]) {
                ways++;
            }
        }
        return ways;
    }

    /** Whether this off adds no tight height that is a slack one of offs up to it, nor the other way. */
    private boolean isTellingOff(int off) {
        int tight = turn.height(0, off, false);
        int slack = turn.height(0, off, true);
        for (int i = 0; i <= off; i++) {
            if (turn.height(0, i, true) == tight || turn.height(0, i, false) == slack) {
                return false;
            }
        }
        return true;
    }

    /** How many of a trier's blows that are told as kept have this mark. */
    private int blowsAt(int mark, int trier) {
        int blows = 0;
        for (int k = 0; k < book.toldBlows(); k++) {
            if (book.told(k, Book.TRIER) == trier && fair.markOf(book.told(k, Book.HEIGHT)) == mark) {
                blows++;
            }
        }
        return blows;
    }

    /** A name is six letters in base 27, the first one highest, 0 behind its end. */
    private static int letterOf(int name, int k) {
        int rest = name;
        for (int i = NAME_LETTERS - 1; i > k; i--) {
            rest /= 27;
        }
        return rest % 27;
    }

    /** The bytes that were fed and not read yet. */
    private static final class Tape {
        final int[] bytes = new int[MOST_BYTES];
        int size;

        void add(int number) {
            for (int shift = 24; shift >= 0 && size < bytes.length; shift -= 8) {
                bytes[size] = (number >> shift) & 255;
                size++;
            }
        }
    }

    /** What a fair's text tells. */
    private static final class Fair {
        final int[] markName = new int[MOST_MARKS];
        final int[] markHeight = new int[MOST_MARKS];
        final int[] trierName = new int[MOST_TRIERS];
        final int[] traits = new int[MOST_TRIERS * TRAITS];
        final int[] settings = new int[SETTINGS];
        /** All rules' tests, one behind the other, operands ahead of what joins them. */
        final int[] code = new int[MOST_BYTES];
        final int[] ruleEnd = new int[MOST_RULES];
        int codeSize;
        int marks;
        int triers;
        int rules;
        int statements;

        Fair() {
            forget();
        }

        /** All is as without being told. */
        void forget() {
            System.arraycopy(SETTING_UNTOLD, 0, settings, 0, SETTINGS);
            codeSize = 0;
            marks = 0;
            triers = 0;
            rules = 0;
            statements = 0;
        }

        int trait(int trier, int what) {
            int at = trier * TRAITS + what;
            return at < 0 || at >= traits.length ? 0 : traits[at];
        }

        boolean hasName(int name) {
            for (int i = 0; i < marks; i++) {
                if (markName[i] == name) {
                    return true;
                }
            }
            for (int i = 0; i < triers; i++) {
                if (trierName[i] == name) {
                    return true;
                }
            }
            return false;
        }

        /** The highest mark not above a height, of like ones the first. */
        int markOf(int height) {
            int found = NONE;
            for (int i = 0; i < marks; i++) {
                if (markHeight[i] <= height && (found == NONE || markHeight[i] > markHeight[found])) {
                    found = i;
                }
            }
            return found;
        }

        void emit(int op) {
            if (codeSize < code.length) {
                code[codeSize] = op;
                codeSize++;
            }
        }
    }

    /** Own words, by their places in ALL. */
    private static final class Words {
        static final int MARK = 0;
        static final int AT = 1;
        static final int TRIER = 2;
        static final int FORCE = 3;
        static final int LADY = 8;
        static final int LEAN = 9;
        static final int WHEN = 10;
        static final int COMES = 17;
        static final int OR = 21;
        static final int AND = 22;
        static final int NOT = 23;
        static final int ANYWAY = 24;
        static final int MIN = 25;
        static final int MAX = 26;
        static final int COUNT = 27;
        /** Six signs for each word. */
        static final String ALL = "mark  at    trier force aim   tires coins stays lady  lean  when  bell  price tries slack crowd near  comes tried last  rings or    and   not   all   min   max   ";
        /** The word that tells each of the settings BELL to NEAR. */
        static final int[] OF_SETTING = {11, 14, 12, 13, 15, 16};
        /** The word of each fact: crowd, tried, last, lady, rings, coins. */
        static final int[] OF_FACT = {15, 18, 19, 8, 20, 6};
    }

    /** Takes a text apart into words, numbers and signs. */
    private static final class Reader {
        static final int END = 0;
        static final int WORD = 1;
        static final int NUMBER = 2;
        static final int SIGN = 3;
        static final int STUCK = 4;
        static final int MOST_DIGITS = 4;

        private final int[] own = new int[Words.COUNT];
        private int[] text = new int[0];
        private int length;
        private int at;
        int kind;
        int start;
        int size;
        /** A word's first six letters as a name, a number's first four digits, a sign's byte. */
        int value;

        Reader() {
            for (int w = 0; w < Words.COUNT; w++) {
                int name = 0;
                for (int i = w * NAME_LETTERS; i < (w + 1) * NAME_LETTERS && i < Words.ALL.length(); i++) {
                    char sign = Words.ALL.charAt(i);
                    name = name * 27 + (sign == ' ' ? 0 : sign - 'a' + 1);
                }
                own[w] = name;
            }
        }

        void begin(int[] bytes, int count) {
            text = bytes;
            length = Math.min(count, bytes.length);
            at = 0;
            kind = END;
            step();
        }

        /** Goes on to the next word, number or sign. */
        void step() {
            int behind = at;
            boolean isBehindOne = kind == WORD || kind == NUMBER;
            while (at < length && (text[at] == 10 || text[at] == 32)) {
                at++;
            }
            start = at;
            size = 0;
            value = 0;
            kind = at < length ? kindOf(text[at]) : END;
            if (kind == SIGN) {
                value = text[at];
                at++;
            } else if (kind == WORD) {
                readWord();
            } else if (kind == NUMBER) {
                readNumber();
            }
            boolean isOne = kind == WORD || kind == NUMBER;
            if (isOne && isBehindOne && start == behind) {
                // Words and numbers side by side need a blank: this one fits nowhere.
                kind = STUCK;
            }
        }

        private void readWord() {
            for (; at < length && text[at] >= 'a' && text[at] <= 'z'; at++) {
                if (size < NAME_LETTERS) {
                    value = value * 27 + text[at] - 'a' + 1;
                }
                size++;
            }
            for (int i = size; i < NAME_LETTERS; i++) {
                value *= 27;
            }
        }

        private void readNumber() {
            for (; at < length && text[at] >= '0' && text[at] <= '9'; at++) {
                if (size < MOST_DIGITS) {
                    value = value * 10 + text[at] - '0';
                }
                size++;
            }
        }

        /** What begins with this byte, which is no blank. */
        private static int kindOf(int b) {
            if (b >= 'a' && b <= 'z') {
                return WORD;
            }
            return b >= '0' && b <= '9' ? NUMBER : SIGN;
        }

        boolean isWord(int word) {
            return kind == WORD && size <= NAME_LETTERS && word >= 0 && word < own.length && value == own[word];
        }

        boolean isSign(char sign) {
            return kind == SIGN && value == sign;
        }

        boolean isOwnWord() {
            for (int w = 0; w < own.length; w++) {
                if (isWord(w)) {
                    return true;
                }
            }
            return false;
        }
    }

    /** Reads a fair's text into its draft, up to the first fault along the text. */
    private static final class Parser {
        private static final int WRONG = 1;
        private static final int CANNOT_BE = 2;
        private static final int THERE_ALREADY = 3;
        private static final int TOO_DEEP = 4;
        private static final int TOO_MANY = 5;
        private static final int MOST_OPEN = 6;
        private static final int MOST_NUMBER = 9999;

        private final Reader reader = new Reader();
        Fair draft = new Fair();
        int fault;
        int place = NONE;

        boolean parse(int[] bytes, int size) {
            fault = 0;
            place = NONE;
            draft.forget();
            reader.begin(bytes, size);
            for (int n = 0; n <= MOST_STATEMENTS; n++) {
                if (reader.kind == Reader.END) {
                    draft.statements = n;
                    return true;
                }
                if (n == MOST_STATEMENTS) {
                    return tell(TOO_MANY, reader.start);
                }
                if (!readStatement() || !passSign(';')) {
                    return false;
                }
            }
            return false;
        }

        private boolean tell(int which, int where) {
            fault = which;
            place = where;
            return false;
        }

        private boolean tellWrong() {
            return tell(WRONG, reader.start);
        }

        private boolean passSign(char sign) {
            if (!reader.isSign(sign)) {
                return tellWrong();
            }
            reader.step();
            return true;
        }

        private boolean passWord(int word) {
            if (!reader.isWord(word)) {
                return tellWrong();
            }
            reader.step();
            return true;
        }

        /** A name that no other one bears; NONE with a fault. */
        private int passName() {
            boolean isWhole = reader.kind == Reader.WORD && reader.size <= NAME_LETTERS;
            if (reader.kind == Reader.WORD && !isWhole) {
                tell(WRONG, reader.start + NAME_LETTERS);
                return NONE;
            }
            if (!isWhole || reader.isOwnWord()) {
                tellWrong();
                return NONE;
            }
            int name = reader.value;
            if (draft.hasName(name)) {
                tell(THERE_ALREADY, reader.start);
                return NONE;
            }
            reader.step();
            return name;
        }

        /** A number from least to most; NONE with a fault. */
        private int passNumber(int least, int most) {
            if (reader.kind != Reader.NUMBER) {
                tellWrong();
                return NONE;
            }
            if (reader.size > Reader.MOST_DIGITS) {
                tell(WRONG, reader.start + Reader.MOST_DIGITS);
                return NONE;
            }
            int number = reader.value;
            if (number < least || number > most) {
                tell(CANNOT_BE, reader.start);
                return NONE;
            }
            reader.step();
            return number;
        }

        private boolean readStatement() {
            if (reader.isWord(Words.MARK)) {
                return readMark();
            }
            if (reader.isWord(Words.TRIER)) {
                return readTrier();
            }
            if (reader.isWord(Words.LEAN)) {
                // Read from here, not from a method of its own: calls go eight deep at most.
                return beginRule() && readTest(0) && endRule();
            }
            if (reader.isWord(Words.COMES)) {
                reader.step();
                return readSetting(COMES) && readSetting(COMES + 1) && readSetting(COMES + 2);
            }
            for (int setting = 0; setting < Words.OF_SETTING.length; setting++) {
                if (reader.isWord(Words.OF_SETTING[setting])) {
                    reader.step();
                    return readSetting(setting);
                }
            }
            return tellWrong();
        }

        private boolean readSetting(int setting) {
            int number = passNumber(SETTING_LEAST[setting], SETTING_MOST[setting]);
            if (number == NONE) {
                return false;
            }
            draft.settings[setting] = number;
            return true;
        }

        private boolean readMark() {
            int mark = draft.marks;
            if (mark >= MOST_MARKS) {
                return tell(TOO_MANY, reader.start);
            }
            reader.step();
            int name = passName();
            if (name == NONE || !passWord(Words.AT)) {
                return false;
            }
            int height = passNumber(1, MOST_HEIGHT);
            if (height == NONE) {
                return false;
            }
            draft.markName[mark] = name;
            draft.markHeight[mark] = height;
            draft.marks++;
            return true;
        }

        private boolean readTrier() {
            int trier = draft.triers;
            if (trier >= MOST_TRIERS) {
                return tell(TOO_MANY, reader.start);
            }
            reader.step();
            int name = passName();
            if (name == NONE) {
                return false;
            }
            for (int trait = FORCE; trait < LADY; trait++) {
                // The words force, aim, tires, coins, stays stand side by side in this order.
                if (!passWord(Words.FORCE + trait)) {
                    return false;
                }
                int number = passNumber(TRAIT_LEAST[trait], TRAIT_MOST[trait]);
                if (number == NONE) {
                    return false;
                }
                draft.traits[trier * TRAITS + trait] = number;
            }
            boolean isLady = reader.isWord(Words.LADY);
            if (isLady) {
                reader.step();
            }
            draft.traits[trier * TRAITS + LADY] = isLady ? 1 : 0;
            draft.trierName[trier] = name;
            draft.triers++;
            return true;
        }

        private boolean beginRule() {
            if (draft.rules >= MOST_RULES) {
                return tell(TOO_MANY, reader.start);
            }
            reader.step();
            return passWord(Words.WHEN);
        }

        private boolean endRule() {
            if (draft.rules >= MOST_RULES) {
                return false;
            }
            draft.ruleEnd[draft.rules] = draft.codeSize;
            draft.rules++;
            return true;
        }

        private boolean readTest(int open) {
            if (!readBoth(open)) {
                return false;
            }
            for (int i = 0; i < MOST_BYTES && reader.isWord(Words.OR); i++) {
                reader.step();
                if (!readBoth(open)) {
                    return false;
                }
                draft.emit(Op.OR);
            }
            return true;
        }

        private boolean readBoth(int open) {
            if (!readFact(open)) {
                return false;
            }
            for (int i = 0; i < MOST_BYTES && reader.isWord(Words.AND); i++) {
                reader.step();
                if (!readFact(open)) {
                    return false;
                }
                draft.emit(Op.AND);
            }
            return true;
        }

        private boolean readFact(int open) {
            if (reader.isWord(Words.NOT)) {
                if (!passOpener(open) || !readFact(open + 1)) {
                    return false;
                }
                draft.emit(Op.NOT);
                return true;
            }
            if (reader.isSign('[')) {
                return passOpener(open) && readTest(open + 1) && passSign(']');
            }
            if (reader.isWord(Words.ANYWAY)) {
                reader.step();
                draft.emit(1);
                return true;
            }
            if (!readSum(open)) {
                return false;
            }
            int op = passComparer();
            if (op == NONE || !readSum(open)) {
                return false;
            }
            draft.emit(op);
            return true;
        }

        /** Goes past a ( or [ or not that stands there, unless too many are open. */
        private boolean passOpener(int open) {
            if (open >= MOST_OPEN) {
                return tell(TOO_DEEP, reader.start);
            }
            reader.step();
            return true;
        }

        /** The one of < > = that stands there; NONE with a fault. */
        private int passComparer() {
            int op = reader.isSign('<') ? Op.LESS : reader.isSign('>') ? Op.MORE : Op.SAME;
            if (op == Op.SAME && !reader.isSign('=')) {
                tellWrong();
                return NONE;
            }
            reader.step();
            return op;
        }

        private boolean readSum(int open) {
            if (!readProduct(open)) {
                return false;
            }
            for (int i = 0; i < MOST_BYTES && (reader.isSign('+') || reader.isSign('-')); i++) {
                int op = reader.isSign('+') ? Op.PLUS : Op.MINUS;
                reader.step();
                if (!readProduct(open)) {
                    return false;
                }
                draft.emit(op);
            }
            return true;
        }

        private boolean readProduct(int open) {
            if (!readPart(open)) {
                return false;
            }
            for (int i = 0; i < MOST_BYTES && (reader.isSign('*') || reader.isSign('/')); i++) {
                int op = reader.isSign('*') ? Op.TIMES : Op.OVER;
                reader.step();
                if (!readPart(open)) {
                    return false;
                }
                draft.emit(op);
            }
            return true;
        }

        private boolean readPart(int open) {
            if (reader.kind == Reader.NUMBER) {
                int number = passNumber(0, MOST_NUMBER);
                draft.emit(number);
                return number != NONE;
            }
            if (reader.isSign('(')) {
                return passOpener(open) && readSum(open + 1) && passSign(')');
            }
            if (reader.isWord(Words.MIN)) {
                return readPair(open, Op.LEAST);
            }
            if (reader.isWord(Words.MAX)) {
                return readPair(open, Op.GREATEST);
            }
            for (int fact = 0; fact < Words.OF_FACT.length; fact++) {
                if (reader.isWord(Words.OF_FACT[fact])) {
                    reader.step();
                    draft.emit(Op.FACT + fact);
                    return true;
                }
            }
            return tellWrong();
        }

        private boolean readPair(int open, int op) {
            reader.step();
            if (!reader.isSign('(')) {
                return tellWrong();
            }
            boolean right = passOpener(open) && readSum(open + 1) && passSign(',')
                    && readSum(open + 1) && passSign(')');
            if (right) {
                draft.emit(op);
            }
            return right;
        }
    }

    /** What stands in a rule's code; what is below FACT is a number itself. */
    private static final class Op {
        static final int FACT = 10000;
        static final int NOT = 10010;
        static final int AND = 10011;
        static final int OR = 10012;
        static final int LESS = 10013;
        static final int MORE = 10014;
        static final int SAME = 10015;
        static final int PLUS = 10016;
        static final int MINUS = 10017;
        static final int TIMES = 10018;
        static final int OVER = 10019;
        static final int LEAST = 10020;
        static final int GREATEST = 10021;
    }

    /** Looks at a trier ahead of a blow, and says which rules' tests hold. */
    private static final class Showman {
        private static final long BOUND = 1000000;

        /** In the order of Words.OF_FACT: crowd, tried, last, lady, rings, coins. */
        private final int[] facts = new int[6];
        /** Six openers, each with three values waiting at most, need far fewer places. */
        private final int[] stack = new int[64];

        void look(int crowd, int tried, int last, int rings) {
            facts[0] = crowd;
            facts[1] = tried;
            facts[2] = last;
            facts[4] = rings;
        }

        void lookAt(int lady, int coins) {
            facts[3] = lady;
            facts[5] = coins;
        }

        /** Rules whose tests hold, in force or not, as bits. */
        int rulesThatHold(Fair fair) {
            int bits = 0;
            int from = 0;
            for (int rule = 0; rule < fair.rules; rule++) {
                if (holds(fair.code, from, fair.ruleEnd[rule])) {
                    bits |= 1 << rule;
                }
                from = fair.ruleEnd[rule];
            }
            return bits;
        }

        private boolean holds(int[] code, int from, int to) {
            int top = 0;
            for (int i = from; i < to && i < code.length; i++) {
                int op = code[i];
                if (op < Op.NOT) {
                    if (top < stack.length) {
                        stack[top] = valueOf(op);
                        top++;
                    }
                } else if (op == Op.NOT) {
                    if (top > 0) {
                        stack[top - 1] = 1 - stack[top - 1];
                    }
                } else if (top > 1) {
                    stack[top - 2] = join(op, stack[top - 2], stack[top - 1]);
                    top--;
                }
            }
            return top > 0 && stack[top - 1] != 0;
        }

        private int valueOf(int op) {
            int fact = op - Op.FACT;
            if (fact < 0) {
                return op;
            }
            return fact < facts.length ? facts[fact] : 0;
        }

        private static int join(int op, int a, int b) {
            switch (op) {
                case Op.AND: return a & b;
                case Op.OR: return a | b;
                case Op.LESS: return a < b ? 1 : 0;
                case Op.MORE: return a > b ? 1 : 0;
                case Op.SAME: return a == b ? 1 : 0;
                case Op.LEAST: return Math.min(a, b);
                case Op.GREATEST: return Math.max(a, b);
                case Op.OVER: return b == 0 ? 0 : Math.floorDiv(a, b);
                default: return reckon(op, a, b);
            }
        }

        private static int reckon(int op, long a, long b) {
            long n = op == Op.PLUS ? a + b : op == Op.MINUS ? a - b : a * b;
            return (int) (n > BOUND ? BOUND : n < -BOUND ? -BOUND : n);
        }
    }

    /** One trier's turn as the bell, the slack and the price stand. */
    private static final class Turn {
        int force;
        int aim;
        int tires;
        int coins;
        int stays;
        int lady;
        int bell;
        int slack;
        int price;
        int tries;
        int near;
        int crowd;
        private final int[] comes = new int[3];

        void load(Fair fair, int trier, int[] now) {
            force = fair.trait(trier, FORCE);
            aim = fair.trait(trier, AIM);
            tires = fair.trait(trier, TIRES);
            coins = fair.trait(trier, COINS);
            stays = fair.trait(trier, STAYS);
            lady = fair.trait(trier, LADY);
            bell = now[BELL];
            slack = now[SLACK];
            price = now[PRICE];
            tries = fair.settings[TRIES];
            near = fair.settings[NEAR];
            crowd = fair.settings[CROWD];
            System.arraycopy(fair.settings, COMES, comes, 0, comes.length);
        }

        int coinsBehind(int blows) {
            return coins - blows * price;
        }

        boolean goesOn(int blows, int last) {
            if (blows >= tries || coinsBehind(blows) < price) {
                return false;
            }
            return blows == 0 || (!isRing(last) && bell - last <= stays);
        }

        int height(int blows, int off, boolean isSlack) {
            int left = Math.max(1, force - blows * tires);
            return Math.min(bell, rise(left, off, isSlack ? slack : 0));
        }

        boolean isRing(int height) {
            return height >= bell;
        }

        boolean isNear(int height) {
            return height < bell && bell - height <= near;
        }

        /** People who come by a blow of this height. */
        int brings(int height) {
            if (isRing(height)) {
                return comes[0];
            }
            return isNear(height) ? comes[1] : comes[2];
        }

        /** People behind blows none of which rang. */
        int crowdBehind(int blows, int nearOnes) {
            return Math.min(MOST_PEOPLE, crowd + nearOnes * comes[1] + (blows - nearOnes) * comes[2]);
        }
    }

    /** A turn with all offs; weights are whole numbers, as 60 is a multiple of each count of offs. */
    private static final class Tree {
        private static final long WHOLE = 60L * 60 * 60 * 60;
        private static final int LED_BY = 12;
        private static final int STATES = MOST_BLOWS * MOST_BLOWS * LED_BY;

        final Turn turn = new Turn();
        private final Showman showman = new Showman();
        private long rings;
        private long blows;
        private long leans;
        private long people;
        private int fewest;
        private int most;
        int winner;
        private long winnerBlows;
        /** Blows from each state on, and the rules that hold there; NONE where it is not known yet. */
        private final long[] knownBlows = new long[STATES];
        private final int[] knownRules = new int[STATES];
        private final long[] blowsByRules = new long[1 << MOST_RULES];

        int fact(int what) {
            switch (what) {
                case 0: return thousandths(rings);
                case 1: return thousandths(blows * turn.price);
                case 2: return fewest;
                case 3: return most;
                case 4: return thousandths(leans);
                case 5: return thousandths(people);
                default: return NONE;
            }
        }

        private static int thousandths(long weight) {
            return (int) (weight * 1000 / WHOLE);
        }

        int winnerLeaves(int price) {
            return thousandths(winnerBlows * price);
        }

        void walk(Fair fair, int inForce) {
            rings = 0;
            blows = 0;
            leans = 0;
            people = 0;
            fewest = MOST_BLOWS;
            most = 0;
            goOn(fair, inForce, 0, turn.crowd, 0, WHOLE, false);
        }

        private void goOn(Fair fair, int inForce, int struck, int crowd, int last, long weight, boolean leant) {
            if (struck >= MOST_BLOWS || !turn.goesOn(struck, last)) {
                fewest = Math.min(fewest, struck);
                most = Math.max(most, struck);
                people += weight * crowd;
                return;
            }
            showman.look(crowd, struck, last, 0);
            showman.lookAt(turn.lady, turn.coinsBehind(struck));
            boolean slack = inForce != 0 && (showman.rulesThatHold(fair) & inForce) != 0;
            blows += weight;
            if (slack && !leant) {
                leans += weight;
            }
            long share = shareOf(weight);
            for (int off = 0; off <= turn.aim; off++) {
                int height = turn.height(struck, off, slack);
                if (turn.isRing(height)) {
                    rings += share;
                }
                int more = Math.min(MOST_PEOPLE, crowd + turn.brings(height));
                goOn(fair, inForce, struck + 1, more, height, share, leant || slack);
            }
        }

        private long shareOf(long weight) {
            int offs = turn.aim + 1;
            return offs <= 0 ? 0 : weight / offs;
        }

        /** The rules in force by which most is left behind become the winner, of like ones the least bits. */
        void weighRules(Fair fair, int[] now) {
            int sets = 1 << Math.min(fair.rules, MOST_RULES);
            Arrays.fill(blowsByRules, 0);
            for (int trier = 0; trier < fair.triers; trier++) {
                turn.load(fair, trier, now);
                Arrays.fill(knownRules, NONE);
                for (int set = 0; set < sets; set++) {
                    Arrays.fill(knownBlows, NONE);
                    blowsByRules[set] += blowsFrom(fair, set, 0, 0, 0, 0, WHOLE);
                }
            }
            winner = 0;
            winnerBlows = blowsByRules[0];
            for (int set = 1; set < sets; set++) {
                if (blowsByRules[set] > winnerBlows) {
                    winner = set;
                    winnerBlows = blowsByRules[set];
                }
            }
        }

        /** The bell by which most is left behind without rules becomes the winner, of like ones the lowest. */
        void weighBells(Fair fair, int[] now) {
            winner = NONE;
            winnerBlows = NONE;
            for (int bell = 1; bell <= MOST_HEIGHT; bell++) {
                long all = 0;
                for (int trier = 0; trier < fair.triers; trier++) {
                    turn.load(fair, trier, now);
                    turn.bell = bell;
                    Arrays.fill(knownBlows, NONE);
                    all += blowsFrom(fair, 0, 0, 0, 0, 0, WHOLE);
                }
                if (all > winnerBlows) {
                    winner = bell;
                    winnerBlows = all;
                }
            }
        }

        /**
         * Blows to come, in shares of unit, 60 to the number of blows that are left.
         * Crowd and last blow follow from how many were near and which off, slack or tight, led here.
         */
        private long blowsFrom(Fair fair, int inForce, int struck, int near, int led, int last, long unit) {
            int state = (struck * MOST_BLOWS + near) * LED_BY + led;
            if (state < 0 || state >= STATES || !turn.goesOn(struck, last)) {
                return 0;
            }
            if (knownBlows[state] != NONE) {
                return knownBlows[state];
            }
            boolean slack = inForce != 0 && (rulesAt(fair, state, struck, near, last) & inForce) != 0;
            long all = 0;
            for (int off = 0; off <= turn.aim; off++) {
                int height = turn.height(struck, off, slack);
                int nearNow = near + (turn.isNear(height) ? 1 : 0);
                all += blowsFrom(fair, inForce, struck + 1, nearNow, slack ? off + 6 : off, height, unit / 60);
            }
            knownBlows[state] = unit + all * shareOf(60);
            return knownBlows[state];
        }

        private int rulesAt(Fair fair, int state, int struck, int near, int last) {
            if (knownRules[state] == NONE) {
                showman.look(turn.crowdBehind(struck, near), struck, last, 0);
                showman.lookAt(turn.lady, turn.coinsBehind(struck));
                knownRules[state] = showman.rulesThatHold(fair);
            }
            return knownRules[state];
        }
    }

    /** What acts change: nights, takings, rules in force, bell, slack, price; what is kept of blows and acts. */
    private static final class Book {
        static final int TRIER = 1;
        static final int HEIGHT = 4;
        private static final int TOLD = 60;
        private static final int MOST_ACTS = 20;
        /** Those told, and those that come back when as many nights as can be are undone. */
        private static final int KEPT = TOLD + MOST_ACTS * MOST_TRIERS * MOST_BLOWS;
        /** Kinds of acts behind those of set(). */
        private static final int RULE_ACT = 3;
        private static final int NIGHT_ACT = 4;

        int nights;
        int takings;
        int inForce;
        /** The bell, slack, price that hold. */
        final int[] now = new int[SETTABLE];
        /** Of the night that goes on. */
        int crowd;
        int rings;
        int seed = 1;
        int acts;
        private final int[] actKind = new int[MOST_ACTS];
        /** What an act changed was this: a setting, the rules in force, the takings. */
        private final int[] actOld = new int[MOST_ACTS];
        private final int[] actBlows = new int[MOST_ACTS];
        /** A blow's numbers in one; the i-th blow since the fair stands at i mod KEPT. */
        private final int[] blows = new int[KEPT];
        private int keptBlows;

        Book() {
            System.arraycopy(SETTING_UNTOLD, 0, now, 0, SETTABLE);
        }

        void open(Fair fair) {
            nights = 0;
            takings = 0;
            inForce = (1 << fair.rules) - 1;
            System.arraycopy(fair.settings, 0, now, 0, SETTABLE);
            acts = 0;
            keptBlows = 0;
        }

        /** Room for one act more, the oldest going if there are too many. */
        private void addAct(int kind, int old) {
            if (acts >= MOST_ACTS) {
                System.arraycopy(actKind, 1, actKind, 0, MOST_ACTS - 1);
                System.arraycopy(actOld, 1, actOld, 0, MOST_ACTS - 1);
                System.arraycopy(actBlows, 1, actBlows, 0, MOST_ACTS - 1);
                acts = MOST_ACTS - 1;
            }
            actKind[acts] = kind;
            actOld[acts] = old;
            actBlows[acts] = 0;
            acts++;
        }

        int change(int what, int n) {
            int old = now[what];
            addAct(what, old);
            now[what] = n;
            return old;
        }

        boolean isInForce(int rule) {
            return (inForce >> rule & 1) == 1;
        }

        void turnRule(int rule) {
            addAct(RULE_ACT, inForce);
            inForce ^= 1 << rule;
        }

        void startNight(int people) {
            addAct(NIGHT_ACT, takings);
            nights++;
            crowd = people;
            rings = 0;
        }

        /** One blow of the night that was started last: its price is paid. */
        void keep(int trier, int off, boolean slack, int height) {
            int packed = ((nights * 8 + trier) * 8 + off) * 2 + (slack ? 1 : 0);
            blows[keptBlows % KEPT] = packed * 128 + height;
            keptBlows++;
            takings += now[PRICE];
            if (acts > 0) {
                actBlows[acts - 1]++;
            }
        }

        void takeBack() {
            if (acts == 0) {
                return;
            }
            acts--;
            int kind = actKind[acts];
            if (kind < SETTABLE) {
                now[kind] = actOld[acts];
            } else if (kind == RULE_ACT) {
                inForce = actOld[acts];
            } else {
                nights--;
                takings = actOld[acts];
                keptBlows -= actBlows[acts];
            }
        }

        int toldBlows() {
            return Math.min(TOLD, keptBlows);
        }

        /** Number what of the k-th blow that is told, in the order of kept(). */
        int told(int k, int what) {
            int at = keptBlows - toldBlows() + k;
            if (at < 0) {
                return NONE;
            }
            int packed = blows[at % KEPT];
            switch (what) {
                case 0: return packed >> 14;
                case TRIER: return packed >> 11 & 7;
                case 2: return packed >> 8 & 7;
                case 3: return packed >> 7 & 1;
                case HEIGHT: return packed & 127;
                default: return NONE;
            }
        }

        int draw(int m) {
            seed = (int) ((1103515245L * seed + 12345) & 0x7fffffff);
            return m <= 0 ? 0 : (seed / 64) % m;
        }

        void write(int[] image) {
            if (image.length < IMAGE_BYTES) {
                return;
            }
            image[0] = nights >> 8;
            image[1] = nights & 255;
            image[2] = takings >> 16;
            image[3] = takings >> 8 & 255;
            image[4] = takings & 255;
            image[5] = inForce;
            System.arraycopy(now, 0, image, 6, SETTABLE);
            image[9] = checkOf(image);
        }

        /** All is as an image tells, if it is one of a fair with so many rules. */
        boolean takeOver(int[] image, int rules) {
            if (image.length < IMAGE_BYTES || image[9] != checkOf(image)) {
                return false;
            }
            int itsNights = image[0] << 8 | image[1];
            int itsTakings = image[2] << 16 | image[3] << 8 | image[4];
            if (itsNights > MOST_NIGHTS || itsTakings > itsNights * MOST_TAKINGS_A_NIGHT || image[5] >> rules != 0) {
                return false;
            }
            for (int what = 0; what < SETTABLE; what++) {
                if (image[6 + what] < SETTING_LEAST[what] || image[6 + what] > SETTING_MOST[what]) {
                    return false;
                }
            }
            nights = itsNights;
            takings = itsTakings;
            inForce = image[5];
            System.arraycopy(image, 6, now, 0, SETTABLE);
            acts = 0;
            keptBlows = 0;
            return true;
        }

        private static int checkOf(int[] image) {
            int c = 139;
            for (int i = 0; i < IMAGE_BYTES - 1 && i < image.length; i++) {
                c = (3 * c + image[i]) % 253;
            }
            return c;
        }
    }
}
