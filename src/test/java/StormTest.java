import java.util.Random;

/** Any call with any arguments in any state, 512 to an object: none throws, each ends. */
public final class StormTest {
    private static final int RUNS = 600;
    private static final int CALLS = 512;
    private static final int[] EDGES = {Integer.MIN_VALUE, Integer.MIN_VALUE + 1, -201, -101, -100, -10, -9, -3, -2, -1, 0, 1, 2,
        3, 4, 5, 6, 7, 8, 9, 10, 11, 12, 13, 14, 15, 18, 19, 20, 23, 24, 25, 59, 60, 61, 99, 100, 101, 239, 240, 241, 380, 381,
        400, 401, 65536, Integer.MAX_VALUE - 1, Integer.MAX_VALUE};
    private static final long MOST_SECONDS = 600;

    private final Random random;
    private final Texts texts;
    private final StrapWindow w = new StrapWindow();
    private String last = "";

    private StormTest(long seed) {
        random = new Random(seed);
        texts = new Texts(random);
    }

    public static void main(String[] args) throws InterruptedException {
        int[] failed = new int[1];
        Thread storm = new Thread(() -> failed[0] = storm());
        storm.setDaemon(true);
        storm.start();
        storm.join(MOST_SECONDS * 1000);
        if (storm.isAlive()) {
            System.out.println("a call does not end");
            System.exit(1);
        }
        System.out.println(RUNS + " runs of " + CALLS + " calls, " + failed[0] + " of them failed");
        if (failed[0] != 0) {
            System.exit(1);
        }
    }

    private static int storm() {
        int failed = 0;
        for (int run = 0; run < RUNS && failed < 5; run++) {
            StormTest storm = new StormTest(run);
            try {
                storm.blow(run % 3);
            } catch (Throwable thrown) {
                failed++;
                System.out.println("run " + run + ": " + storm.last + " threw " + thrown);
            }
        }
        return failed;
    }

    private void blow(int kind) {
        for (int call = 0; call < CALLS; call++) {
            // kind 0: any call at all; 1: begun with a train and rules; 2: texts among them
            if (kind == 1 && call % 128 == 0 || kind == 2 && random.nextInt(40) == 0) {
                call += text();
            } else {
                any(random.nextInt(33));
            }
        }
    }

    private int text() {
        boolean train = random.nextInt(3) != 0;
        String text = train ? texts.train() : texts.rule();
        if (random.nextInt(4) == 0) {
            text = texts.spoiled(text);
        }
        last = "the text " + text;
        Window.tape(w, text);
        if (train) {
            w.train();
        } else {
            w.force(w.rule());
        }
        return text.length() / 20 + 3;
    }

    private int n() {
        int k = random.nextInt(4);
        return k == 0 ? EDGES[random.nextInt(EDGES.length)] : k == 1 ? random.nextInt(62) - 1 : k == 2 ? random.nextInt(9) : random.nextInt(4);
    }

    private void any(int k) {
        int a = n();
        int b = n();
        int c = n();
        int d = n();
        last = "call " + k + " of " + a + ", " + b + ", " + c + ", " + d;
        boolean flag = random.nextBoolean();
        switch (k) {
            case 0: w.feed(random.nextInt(), a, b, c, d); break;
            case 1: w.end(a); break;
            case 2: w.train(); break;
            case 3: w.rule(); break;
            case 4: w.force(a); break;
            case 5: w.person(a, b); break;
            case 6: w.air(a, b); break;
            case 7: w.seat(a); break;
            case 8: w.stretch(a, b); break;
            case 9: w.mile(); break;
            case 10: w.pull(a); break;
            case 11: w.turn(a); break;
            case 12: w.seats(a, b); break;
            case 13: w.say(a, b); break;
            case 14: w.undo(); break;
            case 15: w.ahead(a, b); break;
            case 16: w.which(flag, a); break;
            case 17: w.sit(flag, a); break;
            case 18: w.plan(a, b); break;
            case 19: w.comes(a, b, c); break;
            case 20: w.gains(a, b, c, d); break;
            case 21: w.rests(a, b, c); break;
            case 22: w.swing(a); break;
            case 23: w.log(a, b); break;
            case 24: w.ruled(a); break;
            case 25: w.look(a); break;
            case 26: w.seed(a); break;
            case 27: w.journeys(a, b, c, d); break;
            case 28: w.count(a); break;
            case 29: w.image(a); break;
            case 30: w.back(a); break;
            default: w.mile(); break;
        }
    }
}
