/** Helps the tests: feeds texts, and counts what is not as due. */
final class Window {
    private static int checked = 0;
    private static int wrong = 0;

    private Window() {
    }

    static int[] words(String text) {
        int calls = (text.length() + 19) / 20;
        int[] words = new int[calls * 5];
        for (int i = 0; i < text.length(); i++) {
            words[i / 4] |= (text.charAt(i) & 255) << 24 - 8 * (i % 4);
        }
        return words;
    }

    /** Puts a text on the tape, in place of what it has. */
    static StrapWindow tape(StrapWindow w, String text) {
        w.end(0);
        int[] words = words(text);
        for (int i = 0; i < words.length; i += 5) {
            w.feed(words[i], words[i + 1], words[i + 2], words[i + 3], words[i + 4]);
        }
        w.end(text.length());
        return w;
    }

    static int train(StrapWindow w, String text) {
        return tape(w, text).train();
    }

    static int rule(StrapWindow w, String text) {
        return tape(w, text).rule();
    }

    static StrapWindow on(String train, String... rules) {
        StrapWindow w = new StrapWindow();
        for (String rule : rules) {
            due(rule, rule(w, rule) >= 0 ? 1 : 0, 1);
        }
        due(train, train(w, train) >= 0 ? 1 : 0, 1);
        return w;
    }

    /** The answer for a fault of that kind at that place. */
    static int fault(int place, int kind) {
        return -2 - (1 + 8 * place + kind);
    }

    /** What can be seen by few calls, to tell that nothing happened; Edges looks closer. */
    static String sight(StrapWindow w) {
        StringBuilder sight = new StringBuilder();
        for (int what = 0; what <= 14; what++) {
            sight.append(w.count(what)).append(' ');
        }
        for (int person = 0; person < w.count(4); person++) {
            for (int what : new int[] {0, 1, 4, 5, 6}) {
                sight.append(w.person(person, what)).append(' ');
            }
        }
        for (int mile = 0; mile < 5; mile++) {
            sight.append(w.stretch(mile, 0)).append(w.stretch(mile, 1));
        }
        sight.append(' ').append(w.ruled(0)).append(' ').append(w.look(NONE)).append(' ').append(w.swing(30));
        return sight.toString();
    }

    static final int NONE = StrapWindow.NONE;

    static void due(String call, long got, long want) {
        checked++;
        if (got != want) {
            wrong++;
            System.out.println(call + " answered " + got + ", due is " + want);
        }
    }

    static void same(String call, String got, String want) {
        checked++;
        if (!got.equals(want)) {
            wrong++;
            System.out.println(call + ": something happened\n  " + want + "\n  " + got);
        }
    }

    static void close() {
        System.out.println(checked + " answers, " + wrong + " of them wrong");
        if (wrong != 0 || checked == 0) {
            System.exit(1);
        }
    }
}
