/**
 * A new object and the calls made on it, each told as a text: its name, then its numbers (1 for true, 0 for false).
 * "tape: .." puts a text on the tape, "train: .." and "rule: .." read it too.
 */
final class Script {
    static final int MOST_CALLS = 512;
    private final StrapWindow w = new StrapWindow();
    private int calls = 0;

    static Script of(String[] given) {
        Script script = new Script();
        for (String call : given) {
            script.make(call);
        }
        return script;
    }

    int callsLeft() {
        return MOST_CALLS - calls;
    }

    int make(String call) {
        int colon = call.indexOf(": ");
        if (colon < 0) {
            String[] parts = call.split(" ");
            int[] numbers = new int[parts.length - 1];
            for (int i = 0; i < numbers.length; i++) {
                numbers[i] = Integer.parseInt(parts[i + 1]);
            }
            return plain(parts[0], numbers);
        }
        int length = tape(call.substring(colon + 2));
        String name = call.substring(0, colon);
        return name.equals("tape") ? length : plain(name, new int[0]);
    }

    private int tape(String text) {
        int[] words = Window.words(text);
        plain("end", new int[] {0});
        for (int i = 0; i < words.length; i += 5) {
            plain("feed", new int[] {words[i], words[i + 1], words[i + 2], words[i + 3], words[i + 4]});
        }
        return plain("end", new int[] {text.length()});
    }

    private int plain(String name, int[] a) {
        calls++;
        if (calls > MOST_CALLS) {
            throw new IllegalStateException("what a call behind the 512th answers is free");
        }
        switch (a.length) {
            case 0: return none(name);
            case 1: return one(name, a[0]);
            case 2: return two(name, a[0], a[1]);
            default: return more(name, a);
        }
    }

    private int none(String name) {
        switch (name) {
            case "train": return w.train();
            case "rule": return w.rule();
            case "mile": return w.mile();
            case "undo": return w.undo();
            default: throw new IllegalArgumentException(name);
        }
    }

    private int one(String name, int a) {
        switch (name) {
            case "end": return w.end(a);
            case "force": return w.force(a);
            case "seat": return w.seat(a);
            case "pull": return w.pull(a);
            case "turn": return w.turn(a);
            case "swing": return w.swing(a);
            case "ruled": return w.ruled(a);
            case "look": return w.look(a);
            case "seed": return w.seed(a);
            case "count": return w.count(a);
            case "image": return w.image(a);
            case "back": return w.back(a);
            default: throw new IllegalArgumentException(name);
        }
    }

    private int two(String name, int a, int b) {
        switch (name) {
            case "person": return w.person(a, b);
            case "air": return w.air(a, b);
            case "stretch": return w.stretch(a, b);
            case "seats": return w.seats(a, b) ? 1 : 0;
            case "say": return w.say(a, b);
            case "ahead": return w.ahead(a, b);
            case "which": return w.which(a != 0, b);
            case "sit": return w.sit(a != 0, b);
            case "plan": return w.plan(a, b);
            case "log": return w.log(a, b);
            default: throw new IllegalArgumentException(name);
        }
    }

    private int more(String name, int[] a) {
        switch (name) {
            case "comes": return w.comes(a[0], a[1], a[2]);
            case "rests": return w.rests(a[0], a[1], a[2]);
            case "gains": return w.gains(a[0], a[1], a[2], a[3]);
            case "journeys": return w.journeys(a[0], a[1], a[2], a[3]);
            case "feed": return w.feed(a[0], a[1], a[2], a[3], a[4]);
            default: throw new IllegalArgumentException(name);
        }
    }
}
