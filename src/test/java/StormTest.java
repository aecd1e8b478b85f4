import java.util.Random;

/** Any call with any arguments in any state, 512 to an object: none throws, each ends. */
public final class StormTest {
    private static final int RUNS = 600;
    private static final int TEXT_CALLS = 24;
    private static final int[] EDGES = {Integer.MIN_VALUE, Integer.MIN_VALUE + 1, -201, -101, -100, -10, -9, -3, -2, -1, 0, 1, 2,
        3, 4, 5, 6, 7, 8, 9, 10, 11, 12, 13, 14, 15, 18, 19, 20, 23, 24, 25, 59, 60, 61, 99, 100, 101, 239, 240, 241, 380, 381,
        400, 401, 65536, Integer.MAX_VALUE - 1, Integer.MAX_VALUE};
    private static final int[] FEWER = {Integer.MIN_VALUE, -2, -1, 0, 1, 2, 3, 4, 5, 8, 9, 10, 11, 12, 13, 24, 25, 59, 60, 61, 100, 101,
        Integer.MAX_VALUE};
    private static final int[] FEW = {Integer.MIN_VALUE, -1, 0, 1, 2, 7, 8, 10, 11, 60, 61, 100, 101, Integer.MAX_VALUE};
    private static final int[] FEWEST = {Integer.MIN_VALUE, -1, 0, Integer.MAX_VALUE};
    private static final String[] CALLS = {"train", "rule", "mile", "undo", "end 1", "force 1", "seat 1", "pull 1", "turn 1", "swing 1",
        "ruled 1", "look 1", "seed 1", "count 1", "image 1", "back 1", "person 2", "air 2", "stretch 2", "seats 2", "say 2", "ahead 2",
        "which 2", "sit 2", "plan 2", "log 2", "comes 3", "rests 3", "gains 4", "journeys 4", "feed 5"};
    private static final long MOST_SECONDS = 600;
    private static int runs = 0;
    private static int failed = 0;

    private String[] given = {};
    private Script script = new Script();
    private String last = "";

    public static void main(String[] args) throws InterruptedException {
        Thread storm = new Thread(StormTest::storm);
        storm.setDaemon(true);
        storm.start();
        storm.join(MOST_SECONDS * 1000);
        if (storm.isAlive()) {
            System.out.println("a call does not end");
            System.exit(1);
        }
        System.out.println(runs + " runs of at most " + Script.MOST_CALLS + " calls, " + failed + " of them failed");
        if (failed != 0 || runs == 0) {
            System.exit(1);
        }
    }

    private static void storm() {
        for (int run = 0; run < RUNS && failed < 5; run++) {
            int seed = run;
            StormTest storm = new StormTest();
            storm.guard(() -> storm.blow(new Random(seed), seed % 3));
        }
        String full = "train: train 60 3 6;hole 5" + ";person 0 0 240 60 20".repeat(8) + ";front 1;front 3;front 5" + ";tunnel 0 239".repeat(2)
            + ";cold 0 239 4".repeat(5);
        String[] filled = Edges.then(Edges.times(new String[] {full}, 10, "log 1 60"), "rule: pull 1", "rule: pull 1", "rule: pull 1",
            "rule: pull 1", "rule: pull 1", "rule: pull middle*most/less%knob-soon", "force 5", "image 0", "image 1", "image 2", "image 3",
            "tape: " + " ".repeat(400));
        String[][] states = {Edges.NEW, Edges.RULED, Edges.RICH, Edges.OVER, Edges.on("train 0 0 0"), filled};
        for (String[] state : states) {
            for (String call : CALLS) {
                StormTest sweep = new StormTest();
                sweep.guard(() -> sweep.sweep(state, call));
            }
        }
    }

    private void guard(Runnable run) {
        runs++;
        try {
            run.run();
        } catch (Throwable thrown) {
            failed++;
            System.out.println(last + " threw " + thrown + " behind " + String.join(", ", given));
        }
    }

    private void make(String call) {
        last = call;
        script.make(call);
    }

    /** One call with each edge in each place, in a state that is made anew whenever the object has had its calls. */
    private void sweep(String[] state, String call) {
        given = state;
        script = Script.of(given);
        String[] parts = call.split(" ");
        int places = parts.length > 1 ? Integer.parseInt(parts[1]) : 0;
        int[] edges = places < 3 ? EDGES : places < 4 ? FEWER : places < 5 ? FEW : FEWEST;
        int ways = 1;
        for (int i = 0; i < places; i++) {
            ways *= edges.length;
        }
        for (int way = 0; way < ways; way++) {
            if (script.callsLeft() == 0) {
                runs++;
                script = Script.of(given);
            }
            StringBuilder text = new StringBuilder(parts[0]);
            for (int i = 0, rest = way; i < places; i++, rest /= edges.length) {
                text.append(' ').append(edges[rest % edges.length]);
            }
            make(text.toString());
        }
    }

    /** Kind 0: any call at all; 1: begun with a train and rules; 2: texts among them. */
    private void blow(Random random, int kind) {
        Texts texts = new Texts(random);
        int nextText = Script.MOST_CALLS;
        while (script.callsLeft() > 0) {
            boolean due = kind == 1 ? script.callsLeft() <= nextText : kind == 2 && random.nextInt(40) == 0;
            if (due && script.callsLeft() >= TEXT_CALLS) {
                nextText = script.callsLeft() - 128;
                text(random, texts);
            } else {
                make(any(random));
            }
        }
    }

    private void text(Random random, Texts texts) {
        boolean train = random.nextInt(3) != 0;
        String text = train ? texts.train() : texts.rule();
        make((train ? "train: " : "rule: ") + (random.nextInt(4) == 0 ? texts.spoiled(text) : text));
        if (!train && script.callsLeft() > 0) {
            make("force " + random.nextInt(3));
        }
    }

    private static int number(Random random) {
        switch (random.nextInt(4)) {
            case 0: return EDGES[random.nextInt(EDGES.length)];
            case 1: return random.nextInt(62) - 1;
            case 2: return random.nextInt(9);
            default: return random.nextInt(4);
        }
    }

    private static String any(Random random) {
        String[] parts = CALLS[random.nextInt(CALLS.length)].split(" ");
        StringBuilder text = new StringBuilder(parts[0]);
        boolean bytes = parts[0].equals("feed");
        for (int i = parts.length > 1 ? Integer.parseInt(parts[1]) : 0; i > 0; i--) {
            text.append(' ').append(bytes ? random.nextInt() : number(random));
        }
        return text.toString();
    }
}
