/** Terms I: each sentence that names a boundary of a fair's text, on both sides of it. The sign @ stands where a fault is due. */
public final class EdgeTextTest {
    private static final String OWN_WORDS = "mark at trier force aim tires coins stays lady lean when bell price tries slack crowd near comes"
        + " tried last rings or and not all min max";
    private static final String ANN = "trier ann force 60 aim 1 tires 5 coins 3 stays 20";

    public static void main(String[] args) {
        statements();
        numbersOfMarksAndTriers();
        numbersOfTheFair();
        comes();
        kinds();
        lady();
        lastOneCounts();
        names();
        digits();
        blanks();
        firstByteThatDoesNotGoOn();
        endsTooSoon();
        numbersThatCannotBe();
        namesThatAreThere();
        openers();
        tooMany();
        firstAlongTheText();
        Check.close();
    }

    private static String times(int n, String part) {
        return part.repeat(n);
    }

    private static void statements() {
        Check.sentence("I: a fair is a text { STATEMENT ; }: none at all");
        Check.right("", 0);
        Check.right("\n", 0);
        Check.right(times(1600, " "), 0);
        Check.faultAt(1, "@;");
        Check.faultAt(1, "bell 5;@;");
        Check.faultAt(1, "bell 5@");
        Check.right("bell 5;", 1);
        Check.sentence("I: 70 statements at most");
        Check.right(times(69, "bell 5;"), 69);
        Check.right(times(70, "bell 5;"), 70);
        Check.right(times(70, "bell 5;") + " \n ", 70);
        Check.faultAt(5, times(70, "bell 5;") + "@bell 5;");
        Check.sentence("I: a text as long as the tape");
        Check.right(times(69, "price 1;") + times(1600 - 69 * 8 - 7, "\n") + "bell 9;", 70);
        Check.faultAt(1, times(69, "price 1;") + times(1600 - 69 * 8 - 6, "\n") + "bell 9@");
    }

    /** A number just ahead of the end of a statement: least and most are taken, those beside them are fault 2. */
    private static void range(String ahead, int least, int most, String behind, String call, int what) {
        for (int n : new int[] {least, most}) {
            BellHammer x = Check.at(ahead + " " + n + behind);
            int got = call.equals("mark") ? x.mark(what) : call.equals("trier") ? x.trier(0, what) : x.has(what);
            Check.due(call + " behind '" + ahead + " " + n + "'", got, n);
        }
        Check.faultAt(2, ahead + " @" + (most + 1) + behind);
        if (least == 0) {
            Check.faultAt(1, ahead + " @-1" + behind);
        } else {
            Check.faultAt(2, ahead + " @" + (least - 1) + behind);
        }
    }

    private static void numbersOfMarksAndTriers() {
        Check.sentence("I: mark NAME at N (1 .. 99)");
        range("mark a at", 1, 99, ";", "mark", 0);
        Check.sentence("I: trier NAME force N (1 .. 99)");
        range("trier a force", 1, 99, " aim 1 tires 2 coins 3 stays 4;", "trier", 0);
        Check.sentence("I: aim N (0 .. 5)");
        range("trier a force 9 aim", 0, 5, " tires 2 coins 3 stays 4;", "trier", 1);
        Check.sentence("I: tires N (0 .. 20)");
        range("trier a force 9 aim 1 tires", 0, 20, " coins 3 stays 4;", "trier", 2);
        Check.sentence("I: coins N (0 .. 99)");
        range("trier a force 9 aim 1 tires 2 coins", 0, 99, " stays 4;", "trier", 3);
        Check.sentence("I: stays N (0 .. 99)");
        range("trier a force 9 aim 1 tires 2 coins 3 stays", 0, 99, ";", "trier", 4);
        range("trier a force 9 aim 1 tires 2 coins 3 stays", 0, 99, " lady;", "trier", 4);
    }

    private static void numbersOfTheFair() {
        Check.sentence("I: bell N (1 .. 99)");
        range("bell", 1, 99, ";", "has", 4);
        Check.sentence("I: price N (1 .. 9)");
        range("price", 1, 9, ";", "has", 5);
        Check.sentence("I: tries N (1 .. 4)");
        range("tries", 1, 4, ";", "has", 6);
        Check.sentence("I: slack N (0 .. 90)");
        range("slack", 0, 90, ";", "has", 7);
        Check.sentence("I: crowd N (0 .. 99)");
        range("crowd", 0, 99, ";", "has", 8);
        Check.sentence("I: near N (0 .. 20)");
        range("near", 0, 20, ";", "has", 9);
    }

    /** A trier who rings, one who nearly does, one who misses: what comes in people by each, from a crowd of 0. */
    private static void comes(String told, int ring, int near, int miss) {
        BellHammer x = Check.at("trier a force 50 aim 0 tires 0 coins 1 stays 0; trier b force 49 aim 0 tires 0 coins 1 stays 0;"
            + "trier c force 40 aim 0 tires 0 coins 1 stays 0;" + told);
        Check.due("a ring, '" + told + "'", x.tree(0, 5), 1000 * ring);
        Check.due("a near miss, '" + told + "'", x.tree(1, 5), 1000 * near);
        Check.due("a miss, '" + told + "'", x.tree(2, 5), 1000 * miss);
    }

    private static void comes() {
        Check.sentence("I: comes N N N (0 .. 9 each, for a ring, a near miss, a miss)");
        comes("comes 0 0 0;", 0, 0, 0);
        comes("comes 9 9 9;", 9, 9, 9);
        comes("comes 9 0 0;", 9, 0, 0);
        comes("comes 0 9 0;", 0, 9, 0);
        comes("comes 0 0 9;", 0, 0, 9);
        Check.faultAt(2, "comes @10 9 9;");
        Check.faultAt(2, "comes 9 @10 9;");
        Check.faultAt(2, "comes 9 9 @10;");
        Check.faultAt(1, "comes 9 9@;");
        Check.faultAt(1, "comes 9 9 9 @9;");
        Check.sentence("I: without: 50, 1, 3, 20, 0, 3, and 3 1 0");
        comes("", 3, 1, 0);
        Check.has("untold", Check.at(""), 0, 0, 0, 0, 50, 1, 3, 20, 0, 3, 0, 0, 0, 0);
        BellHammer x = Check.at("bell 7; price 7; tries 2; slack 7; crowd 7; near 7; comes 7 7 7;");
        Check.has("told", x, 0, 0, 0, 0, 7, 7, 2, 7, 7, 7);
        Check.due("fair() of nothing", x.fair(), 0);
        Check.has("untold anew", x, 0, 0, 0, 0, 50, 1, 3, 20, 0, 3, 0, 0, 0, 0);
        Check.text(x, "trier a force 50 aim 0 tires 0 coins 1 stays 0;");
        x.fair();
        Check.due("a ring, untold anew", x.tree(0, 5), 3000);
    }

    private static String marks(int n) {
        StringBuilder s = new StringBuilder();
        for (int i = 0; i < n; i++) {
            s.append("mark m").append((char) ('a' + i)).append(" at ").append(10 + i).append(";");
        }
        return s.toString();
    }

    private static String triers(int n) {
        StringBuilder s = new StringBuilder();
        for (int i = 0; i < n; i++) {
            s.append("trier t").append((char) ('a' + i)).append(" force ").append(20 + i).append(" aim 0 tires 0 coins 0 stays 0;");
        }
        return s.toString();
    }

    private static String leans(int n) {
        StringBuilder s = new StringBuilder();
        for (int i = 0; i < n; i++) {
            s.append("lean when crowd=").append(i).append(";");
        }
        return s.toString();
    }

    private static void kinds() {
        Check.sentence("I: 6 MARKS");
        BellHammer x = Check.at(marks(6));
        Check.due("has(0)", x.has(0), 6);
        Check.due("mark(5)", x.mark(5), 15);
        Check.faultAt(5, marks(6) + "@mark mg at 16;");
        Check.sentence("I: 8 TRIERS");
        BellHammer y = Check.at(triers(8));
        Check.due("has(1)", y.has(1), 8);
        Check.due("trier(7, 0)", y.trier(7, 0), 27);
        Check.faultAt(5, triers(8) + "@trier ti force 28 aim 0 tires 0 coins 0 stays 0;");
        Check.sentence("I: 6 RULES");
        BellHammer z = Check.at(triers(1) + leans(6));
        Check.due("has(2)", z.has(2), 6);
        Check.due("has(3)", z.has(3), 63);
        Check.due("the first rule", z.leans(0, 0, 0, 0, 0), 1);
        Check.due("the sixth rule", z.leans(0, 5, 0, 0, 0), 1);
        Check.due("no seventh one", z.leans(0, 6, 0, 0, 0), 0);
        Check.faultAt(5, leans(6) + "@lean when crowd=6;");
        Check.sentence("I: all kinds as many as can be, at once");
        BellHammer all = Check.at(marks(6) + triers(8) + leans(6));
        Check.has("of all kinds", all, 6, 8, 6, 63);
    }

    private static void lady() {
        Check.sentence("I: the SORT lady, once at most");
        Check.due("without", Check.at(ANN + ";").trier(0, 5), 0);
        Check.due("with", Check.at(ANN + " lady;").trier(0, 5), 1);
        Check.faultAt(1, ANN + " lady @lady;");
        Check.faultAt(1, ANN + " lady\n @lady lady;");
        BellHammer x = Check.at(ANN + " lady; trier bob force 9 aim 0 tires 0 coins 0 stays 0;");
        Check.due("the other one's own", x.trier(1, 5), 0);
        Check.text(x, ANN + ";");
        x.fair();
        Check.due("no lady in the next fair", x.trier(0, 5), 0);
    }

    private static void lastOneCounts() {
        Check.sentence("I: the last one of each counts");
        BellHammer x = Check.at("bell 9; price 9; tries 4; slack 9; crowd 9; near 9; bell 8; price 8; tries 2; slack 8; crowd 8; near 8;");
        Check.has("told twice", x, 0, 0, 0, 0, 8, 8, 2, 8, 8, 8);
        comes("comes 9 8 7; comes 1 2 3;", 1, 2, 3);
        comes("comes 1 2 3; comes 9 8 7;", 9, 8, 7);
    }

    private static void letters(String name) {
        BellHammer x = Check.at("mark " + name + " at 5;");
        for (int k = 0; k < 6; k++) {
            Check.due("letter " + k + " of " + name, x.letter(0, 0, k), k < name.length() ? name.charAt(k) - 'a' + 1 : 0);
        }
    }

    private static void names() {
        Check.sentence("I: NAMES: 1 to 6 letters");
        letters("a");
        letters("z");
        letters("zzzzzz");
        letters("aaaaaa");
        letters("azbyc");
        Check.faultAt(1, "mark @;");
        Check.faultAt(1, "mark abcdef@g at 5;");
        Check.faultAt(1, "trier abcdef@ghi force 5");
        Check.faultAt(1, "mark @5 at 5;");
        Check.faultAt(1, "mark @A at 5;");
        Check.faultAt(1, "mark @` at 5;");
        Check.faultAt(1, "mark @{ at 5;");
        Check.faultAt(1, "mark a@` at 5;");
        Check.faultAt(1, "mark a@{ at 5;");
        Check.sentence("I: NAMES: no OWN WORD; FAULT 1: where a NAME is asked, an OWN WORD so (at its first byte)");
        for (String own : OWN_WORDS.split(" ")) {
            Check.faultAt(1, "mark @" + own + " at 5;");
            Check.faultAt(1, "trier @" + own + " force 5");
            Check.right("mark " + own + "q at 5;", 1);
            Check.right("mark " + own.substring(0, own.length() - 1) + "q at 5;", 1);
        }
        Check.sentence("I: NAMES: unlike ones (of MARKS and TRIERS)");
        Check.right("mark abcdef at 1; mark abcdeg at 1; mark abcde at 1; mark bcdef at 1; mark a at 1;", 5);
        Check.right("mark a at 1; trier b force 1 aim 0 tires 0 coins 0 stays 0; trier ba force 1 aim 0 tires 0 coins 0 stays 0;", 3);
    }

    private static void digits() {
        Check.sentence("I: N (1 to 4 digits)");
        Check.due("one digit", Check.at("bell 5;").has(4), 5);
        Check.due("four digits", Check.at("bell 0005;").has(4), 5);
        Check.due("four digits of a trier", Check.at("trier a force 0099 aim 0005 tires 0020 coins 0099 stays 0000;").trier(0, 2), 20);
        Check.right("lean when 0<9999;", 1);
        Check.right("lean when 0000<0001;", 1);
        Check.sentence("FAULT 1: where a number is asked, a 5th digit at itself");
        Check.faultAt(1, "bell 0005@5;");
        Check.faultAt(1, "bell 0000@0;");
        Check.faultAt(1, "bell 1234@56789;");
        Check.faultAt(1, "mark a at 0001@2;");
        Check.faultAt(1, "comes 1 0002@3 4;");
        Check.faultAt(1, "lean when 9999@9<1;");
        Check.faultAt(1, "lean when 1<(0000@1);");
        Check.sentence("FAULT 1: numbers whole, at their first byte, where none is asked");
        Check.faultAt(1, "@12345;");
        Check.faultAt(1, "mark @12345;");
        Check.faultAt(1, "mark a @12345;");
        Check.faultAt(1, "bell 5 @12345;");
        Check.faultAt(1, "lean when 1<2 @12345;");
        Check.faultAt(1, "lean @12345;");
    }

    private static void blanks() {
        Check.sentence("I: Blanks (10, 32) are where one likes");
        Check.right(" \n mark\n\na \n at  5\n;\n\n" + ANN + " \n lady \n ; lean\nwhen\n[\nnot all ] or 1 \n < min ( 2 , 3 ) ; \n ", 3);
        for (int b : new int[] {0, 9, 11, 12, 13, 31, 33, 127, 128, 160, 255}) {
            Check.faultAt(1, "mark a" + "@" + (char) b + "at 5;");
            Check.faultAt(1, "@" + (char) b + "bell 5;");
            Check.faultAt(1, "bell 5;@" + (char) b);
        }
        Check.sentence("I: words and numbers side by side need a blank");
        Check.faultAt(1, "bell@5;");
        Check.faultAt(1, "mark a at@5;");
        Check.faultAt(1, "trier a force 5@aim 1");
        Check.faultAt(1, "lean when all@5;");
        Check.faultAt(1, "lean when 1<2@or all;");
        Check.faultAt(1, "lean when not@1<2;");
        Check.faultAt(1, "lean when crowd@1<2;");
        // 59, 60 and 43 are the bytes of ; < + and must not be taken for them.
        Check.faultAt(1, "lean when all@59");
        Check.faultAt(1, ANN + " lady@59");
        Check.faultAt(1, "lean when crowd@60 1;");
        Check.faultAt(1, "lean when crowd@43 1<2;");
        Check.faultAt(1, ANN + "@lady;");
        Check.faultAt(1, "@markx at 5;");
        Check.faultAt(1, "bell 5;@bellx 5;");
        Check.right("bell\n5;bell 5 ;", 2);
        Check.right("lean when[all]and not[1<2]or(3)=min(1,2)or max(1,2)<3 and all;", 1);
    }

    private static void firstByteThatDoesNotGoOn() {
        Check.sentence("FAULT 1: words whole, at their first byte");
        Check.faultAt(1, "bell 5; @bel 5;");
        Check.faultAt(1, "bell 5; @bells 5;");
        Check.faultAt(1, "mark a @atx 5;");
        Check.faultAt(1, "mark a @a 5;");
        Check.faultAt(1, "trier a @forces 5;");
        Check.faultAt(1, "lean @whenever all;");
        Check.faultAt(1, "lean when @alls;");
        Check.faultAt(1, "lean when all @ande all;");
        Check.faultAt(1, "lean when @crow<1;");
        Check.faultAt(1, "lean when @crowdss<1;");
        Check.faultAt(1, "lean when 1<@minimum(1,2);");
        Check.faultAt(1, ANN + " @ladyx;");
        Check.faultAt(1, ANN + " @ladylady;");
        Check.sentence("FAULT 1: where a NAME is asked, a 7th letter at itself");
        Check.right("mark abcdef at 5;", 1);
        Check.faultAt(1, "mark abcdef@g at 5;");
        Check.faultAt(1, "mark crowds@s at 5;");
        Check.faultAt(1, "mark abcdef at 5; mark abcdef@g at 5;");
        Check.faultAt(1, "trier abcdef@g");
        Check.sentence("FAULT 1: lady told again, at its first byte");
        Check.faultAt(1, ANN + " lady @lady");
        Check.faultAt(1, ANN + " lady \n@lady;");
        Check.faultAt(1, ANN + " lady @coins;");
        Check.sentence("FAULT 1: signs at themselves");
        for (String marked : new String[] {"bell 5@,", "bell @(5);", "lean when @;", "lean when 1<2@<3;", "lean when 1<@=2;",
            "lean when 1@!2;", "lean when [all@);", "lean when (1@]<2;", "lean when (1@<2);", "lean when [1@];", "lean when 1+@+2<3;",
            "lean when @-1<3;", "lean when min@[1,2]<3;", "lean when min(1@)<3;", "lean when max(1,2@,3)<3;", "lean when (1@,2)<3;",
            "lean when all@)", "lean when 1<2@]", "lean when [all] @[all];", "lean when not@;", "lean when all and@;", "lean when@;"}) {
            Check.faultAt(1, marked);
        }
    }

    /** Each beginning of a text that has every kind of statement in it. */
    private static void endsTooSoon() {
        Check.sentence("FAULT 1: at the text's length, if it ends too soon");
        String text = "mark ab at 12;trier cd force 34 aim 5 tires 6 coins 78 stays 90 lady;comes 1 2 3;bell 45;price 6;tries 4;slack 7;crowd 8;"
            + "near 9;lean when not [min(crowd,1)+2<max(3,last)*4/(tried-5)] or all and lady=0 or rings>coins;";
        int statements = 0;
        int wordStart = 0;
        for (int n = 0; n <= text.length(); n++) {
            String ahead = text.substring(0, n);
            char before = n > 0 ? text.charAt(n - 1) : ';';
            char behind = n < text.length() ? text.charAt(n) : ';';
            statements += n > 0 && before == ';' ? 1 : 0;
            wordStart = isLetter(before) ? wordStart : n;
            boolean isName = ahead.endsWith("mark a") || ahead.endsWith("trier c");
            boolean isCut = isLetter(before) && isLetter(behind) && !isName;
            if (before == ';') {
                Check.right(ahead, statements);
                Check.right(ahead + "\n ", statements);
            } else {
                Check.fault(ahead, 1, isCut ? wordStart : n);
                Check.fault(ahead + "\n ", 1, isCut ? wordStart : n + 2);
            }
        }
    }

    private static boolean isLetter(char c) {
        return c >= 'a' && c <= 'z';
    }

    private static void numbersThatCannotBe() {
        Check.sentence("FAULT 2: a number that can't be, at it");
        Check.faultAt(2, "bell  @0;");
        Check.faultAt(2, "bell  @0000;");
        Check.faultAt(2, "bell @9999;");
        Check.faultAt(2, "bell @0100;");
        Check.faultAt(2, "bell 5; price @10");
        Check.faultAt(2, "bell @100bell");
        Check.faultAt(2, "comes @123;");
        Check.right("lean when 9999*9999>0;", 1);
    }

    private static void namesThatAreThere() {
        Check.sentence("FAULT 3: a NAME that is there already, at it");
        Check.faultAt(3, "mark a at 1; mark @a at 2;");
        Check.faultAt(3, "mark ann at 1; trier @ann force 60 aim 1 tires 5 coins 3 stays 20;");
        Check.faultAt(3, ANN + "; mark @ann at 1;");
        Check.faultAt(3, ANN + "; trier  @ann");
        Check.faultAt(3, marks(5) + "mark @ma");
        Check.faultAt(3, marks(5) + "mark @me");
        Check.faultAt(3, triers(7) + "trier @ta");
        Check.faultAt(3, triers(7) + "trier @tg");
        Check.faultAt(3, triers(8) + "mark @th at 1;");
        Check.faultAt(3, marks(6) + "trier @mf");
        // What an earlier text told, with a fault or without one, is no name of this one.
        BellHammer x = Check.at(marks(6));
        Check.text(x, "mark mb at 1; mark mb at 1;");
        Check.due("fair() with the name twice", x.fair(), -1);
        Check.due("fault(0)", x.fault(0), 3);
        Check.due("fault(1)", x.fault(1), 19);
        Check.text(x, "mark mb at 1; trier ma force 1 aim 0 tires 0 coins 0 stays 0;");
        Check.due("fair() with names of the one before", x.fair(), 2);
    }

    private static void openers() {
        Check.sentence("FAULT 4: the 7th ( that is open at once, at it");
        Check.right("lean when " + times(6, "(") + "1" + times(6, ")") + "<" + times(6, "(") + "1" + times(6, ")") + ";", 1);
        Check.faultAt(4, "lean when " + times(6, "(") + "@(1");
        Check.faultAt(4, "lean when 1<" + times(6, "(") + "@(1");
        Check.faultAt(4, "lean when (1)+(1)<" + times(6, "( ") + "@(");
        for (String ahead : new String[] {"1+", "1-", "1*", "1/", "min(1,2)+3*", "1<2-", "1>2/", "1=2+3*", "all and 1*", "all or 1+", "1<2 and 3*"}) {
            Check.faultAt(4, "lean when " + ahead + times(6, "(") + "@(1");
            Check.faultAt(1, "lean when " + ahead + times(6, "(") + "@+1");
            Check.faultAt(1, "lean when " + ahead + "1234@5");
            Check.faultAt(1, "lean when " + ahead + "@mark");
        }
        Check.right("lean when min(1,max(1,min(1,max(1,min(1,max(1,2))))))=1;", 1);
        Check.faultAt(4, "lean when min(1,max(1,min(1,max(1,min(1,max(1,min@(");
        Check.faultAt(4, "lean when min(max(min(max(min(max(min@(");
        Check.faultAt(1, "lean when min(max(min(max(min(max(min@1");
        Check.sentence("FAULT 4: the 7th [ that is open at once, at it");
        Check.right("lean when " + times(6, "[") + "all" + times(6, "]") + " and " + times(6, "[") + "all" + times(6, "]") + ";", 1);
        Check.faultAt(4, "lean when " + times(6, "[") + "@[all");
        Check.faultAt(4, "lean when all or " + times(6, "[") + "@[");
        Check.sentence("FAULT 4: the 7th not that is open at once, at it (not until its FACT ends)");
        Check.right("lean when " + times(6, "not ") + "all or " + times(6, "not ") + "1<2 and " + times(6, "not ") + "all;", 1);
        Check.faultAt(4, "lean when " + times(6, "not ") + "@not all;");
        Check.faultAt(4, "lean when " + times(6, "not ") + "@[all];");
        Check.faultAt(4, "lean when " + times(6, "not ") + "@(1)<2;");
        Check.faultAt(4, "lean when " + times(6, "not ") + "1<@(2);");
        Check.right("lean when " + times(6, "not ") + "1<2 or (1)<2;", 1);
        Check.right("lean when not all and " + times(6, "[") + "all" + times(6, "]") + ";", 1);
        Check.right("lean when [not all and " + times(5, "[") + "all" + times(6, "]") + ";", 1);
        Check.faultAt(4, "lean when [not all and " + times(5, "[") + "@[all");
        Check.right("lean when not [not [all]] and " + times(6, "not ") + "all;", 1);
        Check.sentence("FAULT 4: ( [ not together");
        Check.right("lean when not [not [((1))<2]];", 1);
        Check.faultAt(4, "lean when not [not [((@(1");
        Check.faultAt(4, "lean when not [not [(max(min@(");
        Check.right("lean when not [not [(max(1,2))<2 and min(1,(2))<3]];", 1);
        Check.sentence("FAULT 4: none stays open for the next rule");
        Check.right("lean when " + times(6, "[") + "all" + times(6, "]") + ";lean when " + times(6, "not ") + "all;lean when "
            + times(6, "(") + "1" + times(6, ")") + "<2;", 3);
    }

    private static void tooMany() {
        Check.sentence("FAULT 5: one too many of a kind, at its first byte");
        Check.faultAt(5, marks(6) + " \n @mark");
        Check.faultAt(5, marks(6) + "@mark ma at 500;");
        Check.faultAt(1, marks(6) + "@marks");
        Check.faultAt(5, triers(8) + "\n@trier");
        Check.faultAt(5, triers(8) + "@trier at");
        Check.faultAt(1, triers(8) + "@trie");
        Check.faultAt(5, leans(6) + " @lean");
        Check.faultAt(5, leans(6) + "@lean all;");
        Check.faultAt(1, leans(6) + "@leans");
        Check.right(marks(6) + times(64, "bell 5;"), 70);
        Check.sentence("FAULT 5: a 71st STATEMENT (whatever stands there), at its first byte");
        String seventy = times(70, "near 5;");
        for (String behind : new String[] {"@bell 5;", "@bell 500;", "@;", "@?", " \n @x", "@12345", "@mark", "@abcdefghi", "\n@\t"}) {
            Check.faultAt(5, seventy + behind);
        }
        Check.right(seventy + "\n", 70);
        Check.faultAt(1, times(69, "near 5;") + "@?");
        Check.faultAt(1, times(69, "near 5;") + "near 5@");
    }

    private static void firstAlongTheText() {
        Check.sentence("FAULTS, the first along the text");
        Check.faultAt(2, "bell @0; x");
        Check.faultAt(1, "@x; bell 0;");
        Check.faultAt(3, "mark a at 1; mark @a at 0;");
        Check.faultAt(2, "mark a at @0; mark a at 1;");
        Check.faultAt(4, "lean when " + times(6, "(") + "@(; bell 0;");
        Check.faultAt(2, "bell @0; lean when " + times(7, "("));
        Check.faultAt(1, "lean when " + times(6, "(") + "@; lean when " + times(7, "("));
        Check.faultAt(2, marks(5) + "mark x at @0;mark y at 1;");
        Check.faultAt(5, marks(6) + "@mark y at 0;");
        Check.faultAt(1, times(69, "near 5;") + "near 5 @5; bell 5;");
    }
}
