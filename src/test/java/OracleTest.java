import java.util.ArrayList;
import java.util.List;
import java.util.Random;

/** Runs of many calls, whose answers are held against the oracle's. */
public final class OracleTest {
    private static final int RUNS = 1500;
    private static int wrong = 0;
    private static int calls = 0;
    private static int right = 0;

    private final Random random;
    private final Texts texts;
    private final StrapWindow window = new StrapWindow();
    private final Oracle oracle = new Oracle();
    private final List<String> told = new ArrayList<>();
    private boolean spoilt = false;

    private OracleTest(long seed) {
        random = new Random(seed);
        texts = new Texts(random);
    }

    public static void main(String[] args) {
        int runs = args.length > 0 ? Integer.parseInt(args[0]) : RUNS;
        for (int run = 0; run < runs && wrong < 3; run++) {
            new OracleTest(run).run(run);
        }
        System.out.println(calls + " calls in " + runs + " runs, " + right + " texts without a fault");
        if (wrong != 0) {
            System.exit(1);
        }
    }

    private void run(int run) {
        int length = run % 10 == 0 ? 512 : 120;
        while (told.size() < length && !spoilt) {
            int before = told.size();
            act();
            if (told.size() == before) {
                told.add("");
            }
        }
        if (spoilt) {
            wrong++;
            System.out.println("run " + run + ":");
            told.subList(Math.max(0, told.size() - 60), told.size()).forEach(System.out::println);
        }
    }

    private int same(String call, int got, int want) {
        calls++;
        told.add(call + " = " + got);
        if (got != want && !spoilt) {
            spoilt = true;
            told.add("  ^ due is " + want);
        }
        return got;
    }

    private void feedText(String text) {
        told.add("\"" + text + "\"");
        int[] w = Window.words(text);
        for (int i = 0; i < w.length; i += 5) {
            same("feed", window.feed(w[i], w[i + 1], w[i + 2], w[i + 3], w[i + 4]),
                oracle.feed(w[i], w[i + 1], w[i + 2], w[i + 3], w[i + 4]));
        }
        same("end", window.end(text.length()), oracle.end(text.length()));
    }

    private String any(String right, String longer) {
        int k = random.nextInt(10);
        return k < 6 ? right : k < 8 ? longer : texts.spoiled(k == 8 ? right : longer);
    }

    private int some(int low, int high) {
        if (random.nextInt(25) != 0) {
            return low + random.nextInt(high - low + 1);
        }
        int[] beyond = {low - 1, high + 1, Integer.MIN_VALUE, Integer.MAX_VALUE};
        return beyond[random.nextInt(4)];
    }

    private void act() {
        boolean told = oracle.all.state.told != null;
        int k = random.nextInt(told ? 100 : 8);
        if (k < 2 || !told && k < 6) {
            feedText(any(texts.train(), texts.longTrain()));
            right += same("train()", window.train(), oracle.train()) >= 0 ? 1 : 0;
        } else if (k < 6) {
            feedText(any(texts.rule(), texts.longRule()));
            right += same("rule()", window.rule(), oracle.rule()) >= 0 ? 1 : 0;
            if (random.nextBoolean()) {
                int r = some(-1, oracle.rules.size() - 1);
                same("force(" + r + ")", window.force(r), oracle.force(r));
            }
        } else if (k < 45) {
            change(random.nextInt(12));
        } else if (k < 60) {
            see();
        } else {
            ask(random.nextInt(14));
        }
    }

    private void change(int k) {
        int a = some(0, 7);
        int b = some(0, 7);
        switch (k) {
            case 0: same("pull " + b, window.pull(b), oracle.pull(b)); break;
            case 1: same("turn " + a % 4, window.turn(a % 4), oracle.turn(a % 4)); break;
            case 2: same("seats " + a + " " + b, window.seats(a, b) ? 1 : 0, oracle.seats(a, b) ? 1 : 0); break;
            case 3: {
                int lie = some(-9, 9);
                same("say " + a + " " + lie, window.say(a, lie), oracle.say(a, lie));
                break;
            }
            case 4: same("undo", window.undo(), oracle.undo()); break;
            case 5: {
                int i = some(0, 3);
                same("image " + i, window.image(i), oracle.image(i));
                break;
            }
            case 6: {
                int i = some(0, 3);
                same("back " + i, window.back(i), oracle.back(i));
                break;
            }
            case 7: {
                int x = random.nextInt();
                same("seed " + x, window.seed(x), oracle.seed(x));
                break;
            }
            case 8: addLog(); break;
            case 9:
                if (random.nextInt(4) == 0) {
                    for (int i = 0; i < 30; i++) {
                        same("mile", window.mile(), oracle.mile());
                    }
                }
                break;
            default: same("mile", window.mile(), oracle.mile()); break;
        }
    }

    private void addLog() {
        int n = some(0, 60);
        int w = some(0, 60);
        int k = random.nextInt(5);
        if (k == 0) {
            n = -1;
        } else if (k < 4 && n >= 0 && n <= 60 && oracle.all.state.told != null) {
            w = likelyWarmth(n);
        }
        same("log " + n + " " + w, window.log(n, w), oracle.log(n, w));
    }

    private int likelyWarmth(int n) {
        Oracle.State s = new Oracle.State();
        s.told = new Oracle.Told();
        Oracle.Told now = oracle.all.state.told;
        s.told.knob = now.knob;
        s.told.lag = now.lag;
        s.told.colds = now.colds;
        s.warmth = now.warmth;
        s.hole = now.hole;
        s.knobs[0] = now.knob;
        return Oracle.ride(s, null, n).warmth;
    }

    private void see() {
        int a = some(0, 7);
        int what = some(0, 9);
        same("person " + a + " " + what, window.person(a, what), oracle.person(a, what));
        same("air " + a + " " + what % 6, window.air(a, what % 6), oracle.air(a, what % 6));
        same("seat " + a, window.seat(a), oracle.seat(a));
        int mile = some(0, 239);
        same("stretch " + mile + " 0", window.stretch(mile, 0), oracle.stretch(mile, 0));
        same("stretch " + mile + " 1", window.stretch(mile, 1), oracle.stretch(mile, 1));
        int c = some(0, 14);
        same("count " + c, window.count(c), oracle.count(c));
    }

    private void ask(int k) {
        int few = random.nextInt(3) == 0 ? 60 : 8;
        int r = some(-1, Math.max(0, oracle.rules.size() - 1));
        int n = some(1, few);
        int what = some(0, 2);
        boolean flag = random.nextBoolean();
        int person = some(0, 7);
        switch (k) {
            case 0: same("ahead " + n + " " + what, window.ahead(n, what), oracle.ahead(n, what)); break;
            case 1: same("which " + flag + " " + what, window.which(flag, what), oracle.which(flag, what)); break;
            case 2:
            case 3: {
                int w = some(0, 9);
                same("sit " + flag + " " + w, window.sit(flag, w), oracle.sit(flag, w));
                break;
            }
            case 4:
            case 5: {
                int m = random.nextInt(4) == 0 ? some(1, 24) : some(1, 8);
                int w = some(-1, random.nextInt(3) == 0 ? 23 : Math.max(1, Math.min(24, m)) - 1);
                same("plan " + m + " " + w, window.plan(m, w), oracle.plan(m, w));
                break;
            }
            case 6: same("comes " + r + " " + n + " " + what, window.comes(r, n, what), oracle.comes(r, n, what)); break;
            case 7:
            case 8:
                same("gains " + person + " " + r + " " + n + " " + what, window.gains(person, r, n, what),
                    oracle.gains(person, r, n, what));
                break;
            case 9: {
                int m = some(1, 12);
                int w = some(0, 3);
                same("rests " + r + " " + m + " " + w, window.rests(r, m, w), oracle.rests(r, m, w));
                break;
            }
            case 10: {
                int w = some(0, 60);
                same("swing " + w, window.swing(w), oracle.swing(w));
                break;
            }
            case 11: same("ruled " + what, window.ruled(what), oracle.ruled(what)); break;
            case 12: {
                int m = some(-1, 60);
                m = random.nextBoolean() ? -1 : m;
                same("look " + m, window.look(m), oracle.look(m));
                break;
            }
            default: {
                int m = some(1, 10);
                int p = some(0, 100);
                same("journeys " + m + " " + n + " " + p + " " + what, window.journeys(m, n, p, what),
                    oracle.journeys(m, n, p, what));
                break;
            }
        }
    }
}
