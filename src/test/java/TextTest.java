/** Promises 1 to 5: a new object, feed, end, fair, fault. */
public final class TextTest {
    private static final String ANN = "trier ann force 60 aim 1 tires 5 coins 3 stays 20";

    public static void main(String[] args) {
        newObject();
        feedAndEnd();
        fairGoesAndStays();
        wrongBytes();
        wrongNumbers();
        namesThatAreThere();
        openers();
        tooMany();
        sideBySide();
        rightTexts();
        faultOfTheLatest();
        longRulesAnew();
        Check.close();
    }

    private static void newObject() {
        BellHammer x = new BellHammer();
        int[] want = {0, 0, 0, 0, 50, 1, 3, 20, 0, 3, 0, 0, 0, 0};
        for (int what = 0; what < want.length; what++) {
            Check.due("new has(" + what + ")", x.has(what), want[what]);
        }
        for (int what = 0; what < 6; what++) {
            Check.due("new status(" + what + ")", x.status(what), 0);
        }
        Check.due("new fault(0)", x.fault(0), 0);
        Check.due("new fault(1)", x.fault(1), -1);
        Check.due("new octet(0)", x.octet(0), -1);
        Check.due("new was(-1)", x.was(-1), -1);
        Check.due("new night()", x.night(), 0);
    }

    private static void feedAndEnd() {
        BellHammer x = new BellHammer();
        Check.due("end(0) of nothing", x.end(0), true);
        Check.due("end(1) of nothing", x.end(1), false);
        Check.due("end(-1)", x.end(-1), false);
        Check.due("status(0)", x.status(0), 2);
        for (int i = 1; i <= 80; i++) {
            Check.due("feed " + i, x.feed(0, 0, 0, 0, 0), 20 * i);
        }
        Check.due("feed 81", x.feed(0, 0, 0, 0, 0), -1);
        Check.due("status(0) when full", x.status(0), 3);
        Check.due("end(1601)", x.end(1601), false);
        Check.due("end(1600)", x.end(1600), true);
        Check.due("end(1581)", x.end(1581), true);
        Check.due("feed to 1601", x.feed(0, 0, 0, 0, 0), -1);
        Check.due("end(1580)", x.end(1580), true);
        Check.due("feed to 1600", x.feed(0, 0, 0, 0, 0), 1600);
        Check.due("end(3)", x.end(3), true);
        Check.due("end(4) behind end(3)", x.end(4), false);
        Check.due("status(0) at last", x.status(0), 6);
        // The highest byte of each number comes first, and numbers below 0 are bytes as well.
        BellHammer y = Check.at(ANN + "; bell 99;");
        Check.due("feed", y.feed(0x01020304, 0xff000000, 0, 0, 0), 20);
        y.end(4);
        Check.due("see(0)", y.see(0), true);
        y.feed(0x010203ff, 0, 0, 0, 0);
        y.end(4);
        Check.due("see(0) of 255", y.see(0), false);
        y.feed(0xff000000, 0, 0, 0, 0);
        y.end(1);
        Check.due("see(0) of 255 first", y.see(0), false);
    }

    private static void fairGoesAndStays() {
        BellHammer x = Check.at("mark a at 5; " + ANN + "; lean when all; bell 40; crowd 7;");
        x.night();
        x.set(1, 30);
        x.rule(0, false);
        Check.tape(x, 40);
        x.see(0);
        Check.text(x, "bell 0;");
        Check.due("fair() with a fault", x.fair(), -1);
        Check.due("status(1)", x.status(1), 1);
        int[] stays = {1, 1, 1, 0, 40, 1, 3, 30, 7, 3, 1, 1, 1, 3};
        for (int what = 0; what < stays.length; what++) {
            Check.due("has(" + what + ") stays", x.has(what), stays[what]);
        }
        Check.due("was(-1) stays", x.was(-1) >= 0, true);
        Check.due("end(1) when the tape went", x.end(1), false);
        Check.text(x, "lean when all;lean when all;");
        Check.due("fair() of two", x.fair(), 2);
        int[] anew = {0, 0, 2, 3, 50, 1, 3, 20, 0, 3, 0, 0, 0, 0};
        for (int what = 0; what < anew.length; what++) {
            Check.due("has(" + what + ") anew", x.has(what), anew[what]);
        }
        Check.due("was(-1) anew", x.was(-1), -1);
        Check.due("undo() anew", x.undo(), false);
        Check.due("fair() of nothing", x.fair(), 0);
        Check.due("has(2) of nothing", x.has(2), 0);
        // The seed stays: the same draws as without a fair between.
        String text = "trier a force 50 aim 5 tires 0 coins 9 stays 99; tries 4; bell 99;";
        BellHammer y = Check.at(text);
        y.seed(77);
        y.night();
        y.night();
        int[] offs = new int[4];
        for (int k = 0; k < 4; k++) {
            offs[k] = y.kept(4 + k, 2);
        }
        BellHammer z = Check.at(text);
        z.seed(77);
        z.night();
        Check.text(z, text);
        z.fair();
        z.night();
        for (int k = 0; k < 4; k++) {
            Check.due("off " + k + " behind a new fair", z.kept(k, 2), offs[k]);
        }
    }

    private static void wrongBytes() {
        Check.fault(";", 1, 0);
        Check.fault("x;", 1, 0);
        Check.fault("  mar", 1, 2);
        Check.fault("marks a at 1;", 1, 0);
        Check.fault("Mark a at 1;", 1, 0);
        Check.fault("mark", 1, 4);
        Check.fault("mark \n ", 1, 7);
        Check.fault("mark a", 1, 6);
        Check.fault("mark a at", 1, 9);
        Check.fault("mark a at 5", 1, 11);
        Check.fault("mark a at 5 5;", 1, 12);
        Check.fault("mark a at x;", 1, 10);
        Check.fault("mark a ta 5;", 1, 7);
        for (String own : ("mark at trier force aim tires coins stays lady lean when bell price tries slack crowd near comes tried last"
            + " rings or and not all min max").split(" ")) {
            Check.fault("mark " + own + " at 5;", 1, 5);
            Check.fault("trier " + own + " force 5", 1, 6);
            Check.right("mark " + own + "x at 5;", 1);
        }
        Check.fault("mark max at 5;", 1, 5);
        Check.fault("mark abcdefg at 5;", 1, 11);
        Check.fault("mark trierxx at 5;", 1, 11);
        Check.fault("mark 5 at 5;", 1, 5);
        Check.fault("mark 12345 at 5;", 1, 5);
        Check.fault("mark aB at 5;", 1, 6);
        Check.fault("mark a\tat 5;", 1, 6);
        Check.fault("mark a\rat 5;", 1, 6);
        Check.fault("mark \u00e9 at 5;", 1, 5);
        Check.fault("mark a at 5;\u0000", 1, 12);
        Check.fault("bell 12345;", 1, 9);
        Check.fault("bell 00001;", 1, 9);
        Check.fault("bell;", 1, 4);
        Check.fault("bell -1;", 1, 5);
        Check.fault("bell 5,", 1, 6);
        Check.fault("comes 1 2;", 1, 9);
        Check.fault("comes 1 2 3 4;", 1, 12);
        Check.fault("trier a aim 1;", 1, 8);
        Check.fault("trier a force 5 tires 5;", 1, 16);
        Check.fault(ANN + " lady lady;", 1, ANN.length() + 6);
        Check.fault(ANN + " gent;", 1, ANN.length() + 1);
        Check.fault("at 5;", 1, 0);
        Check.fault("lean all;", 1, 5);
        Check.fault("lean when;", 1, 9);
        Check.fault("lean when 1;", 1, 11);
        Check.fault("lean when 1 and 2;", 1, 12);
        Check.fault("lean when 1<2<3;", 1, 13);
        Check.fault("lean when 1<=3;", 1, 12);
        Check.fault("lean when 12345<3;", 1, 14);
        Check.fault("lean when -1<3;", 1, 10);
        Check.fault("lean when (1<3);", 1, 12);
        Check.fault("lean when [1<3);", 1, 14);
        Check.fault("lean when [1];", 1, 12);
        Check.fault("lean when [all;", 1, 14);
        Check.fault("lean when all and;", 1, 17);
        Check.fault("lean when all or or all;", 1, 17);
        Check.fault("lean when all all;", 1, 14);
        Check.fault("lean when all<3;", 1, 13);
        Check.fault("lean when min 1,2)<3;", 1, 14);
        Check.fault("lean when min(1 2)<3;", 1, 16);
        Check.fault("lean when max(1,2,3)<3;", 1, 17);
        Check.fault("lean when (1,2)<3;", 1, 12);
        Check.fault("lean when force<3;", 1, 10);
        Check.fault("lean when 1<notx;", 1, 12);
        Check.fault("lean when 1<not all;", 1, 12);
        Check.fault("lean when 1<3", 1, 13);
        Check.fault("lean when 1<", 1, 12);
        Check.fault("lean when crowds<1;", 1, 10);
        Check.fault("bell 5;;", 1, 7);
    }

    private static void wrongNumbers() {
        String[] ahead = {"mark a at", "bell", "price", "tries", "slack", "crowd", "near", "comes", "comes 9", "comes 9 9",
            "trier a force", "trier a force 9 aim", "trier a force 9 aim 5 tires",
            "trier a force 9 aim 5 tires 9 coins", "trier a force 9 aim 5 tires 9 coins 9 stays"};
        int[] least = {1, 1, 1, 1, 0, 0, 0, 0, 0, 0, 1, 0, 0, 0, 0};
        int[] most = {99, 99, 9, 4, 90, 99, 20, 9, 9, 9, 99, 5, 20, 99, 99};
        for (int i = 0; i < ahead.length; i++) {
            Check.fault(ahead[i] + " " + (most[i] + 1), 2, ahead[i].length() + 1);
            Check.fault(ahead[i] + " 9999;", 2, ahead[i].length() + 1);
            Check.fault(ahead[i] + " " + most[i], 1, ahead[i].length() + 1 + ("" + most[i]).length());
            Check.fault(ahead[i] + " 000" + least[i], 1, ahead[i].length() + 5);
            if (least[i] > 0) {
                Check.fault(ahead[i] + " 0000;", 2, ahead[i].length() + 1);
            }
        }
        Check.fault("bell 100x", 2, 5);
    }

    private static void namesThatAreThere() {
        Check.fault("mark a at 1; mark b at 1; mark a at 2;", 3, 31);
        Check.fault("mark ann at 1; " + ANN, 3, 21);
        Check.fault(ANN + "; mark ann at 1;", 3, ANN.length() + 7);
        Check.fault(ANN + "; " + ANN, 3, ANN.length() + 8);
        Check.fault("mark abcdef at 1; mark abcdef", 3, 23);
        Check.right("mark abcdef at 1; mark abcde at 1; mark a at 1;", 3);
    }

    private static void openers() {
        Check.fault("lean when (((((((1", 4, 16);
        Check.fault("lean when [[[[[[[1", 4, 16);
        Check.fault("lean when not not not not not not not all;", 4, 34);
        Check.fault("lean when [ not [ not ( ( 1+(2", 4, 28);
        Check.fault("lean when [ not [ not ( ( min(2", 4, 29);
        Check.fault("lean when [ not [ not ( max ( min ( 2", 4, 34);
        Check.fault("lean when min(1,min(1,min(1,min(1,min(1,min(1,min(1", 4, 49);
        Check.fault("lean when not [not [not (1)<2 and not not not all]];", 4, 42);
        Check.fault("lean when not 1<((((((2", 4, 21);
        Check.right("lean when ((((((1))))))<((((((2))))))+((((((3))))))-min((((((1))))),2);", 1);
        Check.right("lean when [[[[[[all]]]]]] and [[[[[[all]]]]]];", 1);
        Check.right("lean when not not not not not not all and not not not not not not all;", 1);
        Check.right("lean when not not not not not not 1<2 or [[[[[(1)<2]]]]];", 1);
        Check.right("lean when not [not [not (1)<2 and not not all]] or not [[[[[all]]]]];", 1);
        Check.right("lean when [[[[[not all and not 1<2 or all]]]]];", 1);
    }

    private static void tooMany() {
        String marks = "mark a at 1;mark b at 1;mark c at 1;mark d at 1;mark e at 1;mark f at 1;";
        Check.right(marks, 6);
        Check.fault(marks + " mark", 5, marks.length() + 1);
        Check.fault(marks + "mark a at 1;", 5, marks.length());
        Check.fault(marks + "marks", 1, marks.length());
        StringBuilder triers = new StringBuilder();
        for (char c = 'a'; c <= 'h'; c++) {
            triers.append("trier t").append(c).append(" force 1 aim 0 tires 0 coins 0 stays 0;");
        }
        Check.right(triers.toString(), 8);
        Check.fault(triers + "\ntrier", 5, triers.length() + 1);
        String leans = "lean when all;lean when all;lean when all;lean when all;lean when all;lean when all;";
        Check.right(leans, 6);
        Check.fault(leans + "lean when", 5, leans.length());
        StringBuilder seventy = new StringBuilder();
        for (int i = 0; i < 70; i++) {
            seventy.append("bell ").append(i % 99 + 1).append(";");
        }
        Check.right(seventy + " \n ", 70);
        Check.fault(seventy + " bell 5;", 5, seventy.length() + 1);
        Check.fault(seventy + "?", 5, seventy.length());
        Check.fault(seventy + ";", 5, seventy.length());
    }

    private static void sideBySide() {
        Check.fault("bell50;", 1, 4);
        Check.fault("mark a at5;", 1, 9);
        Check.fault("mark a5;", 1, 6);
        Check.fault("trier a force 9aim 5;", 1, 15);
        Check.fault("lean when 1<2and all;", 1, 13);
        Check.fault("lean when 1<2or all;", 1, 13);
        Check.fault("lean when not1<2;", 1, 13);
        Check.fault("lean when crowd1<2;", 1, 15);
        Check.fault(ANN + "lady;", 1, ANN.length());
        Check.right("lean when[all]and[1<2]or(3)=3 and[all];", 1);
    }

    private static void rightTexts() {
        Check.right("", 0);
        Check.right(" \n\n ", 0);
        Check.right("\nmark\na\nat\n5\n;\n", 1);
        Check.right("mark a at 5;mark b at 05;bell 0099;", 3);
        Check.right("comes 9 9 9;comes 0 0 0;slack 0;slack 90;near 0;near 20;crowd 0;crowd 99;price 9;tries 4;", 10);
        Check.right("trier abcdef force 99 aim 5 tires 20 coins 99 stays 99 lady;", 1);
        Check.right("lean when min ( crowd , tried ) + max(last,lady) * rings / coins - 9999 = 0;", 1);
    }

    /** Fairs one behind the other, each with rules as long as can be: none leaves anything to the next one. */
    private static void longRulesAnew() {
        BellHammer x = new BellHammer();
        String one = "trier a force 9 aim 0 tires 0 coins 9 stays 0;";
        for (int i = 0; i < 5; i++) {
            StringBuilder text = new StringBuilder(one + "lean when 0");
            while (text.length() < 1560) {
                text.append("+1");
            }
            int sum = (text.length() - one.length() - 11) / 2;
            text.append(i % 2 == 0 ? "=" : "<").append(sum).append(";");
            Check.text(x, text.toString());
            Check.due("fair() of a long rule", x.fair(), 2);
            Check.due("a long rule", x.leans(0, 0, 0, 0, 0), i % 2 == 0 ? 1 : 0);
        }
        Check.text(x, one + "lean when not all;");
        x.fair();
        Check.due("a short rule behind long ones", x.leans(0, 0, 0, 0, 0), 0);
    }

    private static void faultOfTheLatest() {
        BellHammer x = new BellHammer();
        Check.text(x, "bell 0;");
        x.fair();
        Check.due("fault(0)", x.fault(0), 2);
        Check.due("fault(1)", x.fault(1), 5);
        Check.due("fault(2)", x.fault(2), -1);
        Check.due("fault(-1)", x.fault(-1), -1);
        Check.text(x, "bell 5;");
        x.fair();
        Check.due("fault(0) behind a right one", x.fault(0), 0);
        Check.due("fault(1) behind a right one", x.fault(1), -1);
    }
}
