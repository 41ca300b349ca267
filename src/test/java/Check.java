import java.nio.charset.StandardCharsets;

/** What the tests share: counting wrong answers, and feeding texts and bytes. */
final class Check {
    private static int wrong = 0;
    private static int looked = 0;
    private static int sentences = 0;
    private static String sentence = "";
    private static int lookedBefore = 0;

    private Check() {
    }

    static void due(String what, long got, long want) {
        looked++;
        if (got != want) {
            wrong++;
            if (wrong <= 40) {
                System.out.println((sentence.isEmpty() ? "" : "[" + sentence + "] ") + what + " answered " + got + ", due is " + want);
            }
        }
    }

    /** What follows looks at this sentence of the document, up to the next one; a sentence that nothing looks at is wrong. */
    static void sentence(String words) {
        endSentence();
        sentences++;
        sentence = words;
        lookedBefore = looked;
    }

    private static void endSentence() {
        if (!sentence.isEmpty() && looked == lookedBefore) {
            due("what looks at this sentence", 0, 1);
        }
        sentence = "";
    }

    static void due(String what, boolean got, boolean want) {
        due(what, got ? 1 : 0, want ? 1 : 0);
    }

    static int wrongOnes() {
        return wrong;
    }

    static void close() {
        endSentence();
        String of = sentences > 0 ? " for " + sentences + " sentences" : "";
        System.out.println(looked + " answers looked at" + of + ", " + wrong + " wrong");
        if (wrong != 0) {
            System.exit(1);
        }
    }

    /** Puts just these bytes on an empty tape. */
    static void tape(BellHammer x, int... bytes) {
        for (int at = 0; at < bytes.length; at += 20) {
            int[] five = new int[5];
            for (int i = 0; i < 20; i++) {
                int b = at + i < bytes.length ? bytes[at + i] : 32;
                five[i / 4] = five[i / 4] << 8 | b;
            }
            x.feed(five[0], five[1], five[2], five[3], five[4]);
        }
        x.end(bytes.length);
    }

    static void text(BellHammer x, String text) {
        byte[] bytes = text.getBytes(StandardCharsets.ISO_8859_1);
        int[] numbers = new int[bytes.length];
        for (int i = 0; i < bytes.length; i++) {
            numbers[i] = bytes[i] & 255;
        }
        tape(x, numbers);
    }

    static void text(Model y, String text) {
        for (int at = 0; at < text.length(); at += 20) {
            int[] five = new int[5];
            for (int i = 0; i < 20; i++) {
                five[i / 4] = five[i / 4] << 8 | (at + i < text.length() ? text.charAt(at + i) : 32);
            }
            y.feed(five[0], five[1], five[2], five[3], five[4]);
        }
        y.end(text.length());
    }

    /** A new object with this fair, which must be without a fault. */
    static BellHammer at(String text) {
        BellHammer x = new BellHammer();
        text(x, text);
        if (x.fair() == BellHammer.NONE) {
            due("fair() of " + text, x.fault(0), 0);
        }
        return x;
    }

    /** A text that has so many statements and no fault, for a new object. */
    static void right(String text, int statements) {
        BellHammer x = new BellHammer();
        text(x, text);
        due("fair() of '" + text + "'", x.fair(), statements);
        due("fault(0) of '" + text + "'", x.fault(0), 0);
        due("fault(1) of '" + text + "'", x.fault(1), -1);
        due("status(1) of '" + text + "'", x.status(1), 0);
    }

    /** A text with this fault at this place, for a new object. */
    static void fault(String text, int fault, int place) {
        BellHammer x = new BellHammer();
        text(x, text);
        due("fair() of '" + text + "'", x.fair(), -1);
        due("fault(0) of '" + text + "'", x.fault(0), fault);
        due("fault(1) of '" + text + "'", x.fault(1), place);
    }

    /** A text with this fault where the sign @ stands, which is no part of it. */
    static void faultAt(int fault, String marked) {
        int place = marked.indexOf('@');
        fault(marked.substring(0, place) + marked.substring(place + 1), fault, place);
    }

    /** Numbers 0 to want.length - 1 of has(). */
    static void has(String when, BellHammer x, int... want) {
        for (int what = 0; what < want.length; what++) {
            due("has(" + what + ") " + when, x.has(what), want[what]);
        }
    }

    /** Nine bytes and the one that must stand behind them in an image. */
    static int[] withCheck(int... nine) {
        int[] all = new int[10];
        int c = 139;
        for (int i = 0; i < 9; i++) {
            all[i] = nine[i];
            c = (3 * c + nine[i]) % 253;
        }
        all[9] = c;
        return all;
    }

    /** Whether on() takes just these bytes. */
    static boolean on(BellHammer x, int... bytes) {
        x.end(0);
        tape(x, bytes);
        return x.on();
    }

    /** Whether see() takes just these bytes. */
    static boolean see(BellHammer x, int trier, int... bytes) {
        x.end(0);
        tape(x, bytes);
        return x.see(trier);
    }
}
