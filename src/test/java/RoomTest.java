import java.lang.management.ManagementFactory;

/** How much room a run takes: a new object little, its calls as good as none. */
public final class RoomTest {
    private static final com.sun.management.ThreadMXBean THREADS =
        (com.sun.management.ThreadMXBean) ManagementFactory.getThreadMXBean();

    public static void main(String[] args) {
        StringBuilder text = new StringBuilder("mark m at 40;bell 95;tries 4;near 10;comes 1 2 3;");
        for (int i = 0; i < 8; i++) {
            text.append("trier t").append((char) ('a' + i)).append(" force 9").append(i).append(" aim 5 tires 5 coins 99 stays 99;");
        }
        text.append("lean when last*crowd>(tried+7)*99 or not [coins<3 and all];lean when min(last,9)=3;");
        // Once for the machine's own sake, so that it has loaded all classes.
        calls(Check.at(text.toString()), text.toString());
        long start = taken();
        BellHammer x = new BellHammer();
        long made = taken() - start;
        Check.due("a new object takes 60,000 bytes at most, not " + made, made <= 60000, true);
        String fair = text.toString();
        int[] words = words(fair);
        feed(x, words, fair.length());
        long before = taken();
        x.fair();
        calls(x, null);
        long called = taken() - before;
        Check.due("calls take 4,000 bytes at most, not " + called, called <= 4000, true);
        Check.close();
    }

    private static long taken() {
        return THREADS.getThreadAllocatedBytes(Thread.currentThread().getId());
    }

    private static int[] words(String text) {
        int[] words = new int[(text.length() + 19) / 20 * 5];
        for (int i = 0; i < 4 * words.length; i++) {
            words[i / 4] = words[i / 4] << 8 | (i < text.length() ? text.charAt(i) : 32);
        }
        return words;
    }

    private static void feed(BellHammer x, int[] words, int length) {
        for (int i = 0; i + 4 < words.length; i += 5) {
            x.feed(words[i], words[i + 1], words[i + 2], words[i + 3], words[i + 4]);
        }
        x.end(length);
    }

    private static void calls(BellHammer x, String text) {
        if (text != null) {
            feed(x, words(text), text.length());
            x.fair();
        }
        for (int i = 0; i < 12; i++) {
            x.night();
            x.feed(0x28280000, 0, 0, 0, 0);
            x.end(2);
            x.see(i % 8);
            x.was(-1);
            x.strong(0);
            x.next(true);
            x.clear(i % 8);
            x.reach(0, 1);
            x.tree(i % 8, 5);
            x.best(0);
            x.honest(1);
            x.bet(0, 1, 0);
            x.leans(0, 5, 1, 50, 0);
            x.hard(3, true);
            x.wide(90, false);
            x.high(0, 1, 2, true);
            x.kept(5, 4);
            x.rule(1, i % 2 == 1);
            x.set(0, 50 + i);
            x.undo();
            x.image();
            x.octet(3);
            x.on();
        }
    }
}
