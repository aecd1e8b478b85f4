import com.sun.management.ThreadMXBean;
import java.lang.management.ManagementFactory;

/** What a run of 512 calls makes stays far below the room: 600,000 objects, 7.3 million fields and elements. */
public final class RoomTest {
    // An object takes 16 bytes at least and an element of the rows 1 to 8: in so many bytes there is room for neither limit.
    private static final long MOST_BYTES = 2_000_000;
    private static final int CALLS = 512;
    private static final String FULL = "train 30 1 3;hole 2;person 0 0 240 20 8;person 1 0 240 30 9;person 2 0 240 40 3;"
        + "person 3 0 240 25 1;person 4 0 240 35 12;person 5 0 240 22 8;person 6 0 240 28 6;person 7 0 240 50 20;front 0;"
        + "says 1 18;tunnel 5 9;tunnel 20 30;tunnel 50 59;tunnel 70 80;tunnel 90 99;cold 0 9 1;cold 5 14 2;cold 30 50 3";
    private static final String RULE = "pull middle+most-more*less/people%cross+knob if [[soon<3 or tunnel=1] and window>=0] or warm"
        + ">30;pull middle if not cross>2 and mile%5=0;pull hole+1 if more>less;pull hole-1 if less>more;pull most";

    public static void main(String[] args) {
        ThreadMXBean bean = (ThreadMXBean) ManagementFactory.getThreadMXBean();
        long id = Thread.currentThread().getId();
        bean.getThreadAllocatedBytes(id);
        int over = 0;
        for (int kind = 0; kind < 16; kind++) {
            long before = bean.getThreadAllocatedBytes(id);
            long start = System.nanoTime();
            run(kind);
            long bytes = bean.getThreadAllocatedBytes(id) - before;
            long millis = (System.nanoTime() - start) / 1_000_000;
            System.out.println("run of kind " + kind + ": " + bytes + " bytes, " + millis + " ms");
            over += bytes > MOST_BYTES ? 1 : 0;
        }
        if (over > 0) {
            System.exit(1);
        }
    }

    private static void run(int kind) {
        int[] train = Window.words(FULL);
        int[] rule = Window.words(RULE);
        StrapWindow w = new StrapWindow();
        feed(w, rule, RULE.length());
        w.rule();
        w.force(0);
        feed(w, train, FULL.length());
        w.train();
        for (int call = 0; call < CALLS; call++) {
            one(w, kind, call, train);
        }
    }

    private static void feed(StrapWindow w, int[] words, int length) {
        for (int i = 0; i < words.length; i += 5) {
            w.feed(words[i], words[i + 1], words[i + 2], words[i + 3], words[i + 4]);
        }
        w.end(length);
    }

    private static void one(StrapWindow w, int kind, int call, int[] train) {
        switch (kind) {
            case 0: w.mile(); break;
            case 1: w.pull(call % 6); break;
            case 2: w.say(call % 8, call % 19 - 9); break;
            case 3: w.image(call % 4); w.pull(call % 6); break;
            case 4: w.ahead(240, 2); break;
            case 5: w.sit(true, 0); break;
            case 6: w.plan(24, call % 24); break;
            case 7: w.comes(0, 60, 0); break;
            case 8: w.gains(0, 0, 60, 0); break;
            case 9: w.rests(0, 12, 0); break;
            case 10: w.swing(call % 61); break;
            case 11: w.ruled(0); break;
            case 12: w.look(-1); break;
            case 13: w.journeys(10, 60, 50, 0); break;
            // A whole text each time counts more calls than 512, and so is on the safe side.
            case 14: feed(w, train, FULL.length()); w.train(); break;
            default: feed(w, train, 20); w.rule(); break;
        }
    }
}
