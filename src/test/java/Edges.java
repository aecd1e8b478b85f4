import java.util.ArrayList;
import java.util.HashMap;
import java.util.List;
import java.util.Map;

/**
 * Helps the tests of the boundary cases. That nothing else changes is seen by two objects with the same calls, one of
 * them with the refused call too: whatever is asked or done behind it, both must answer alike.
 */
final class Edges {
    static final int LEAST = Integer.MIN_VALUE;
    static final int MOST = Integer.MAX_VALUE;

    static final String[] NEW = {};
    /** Rules but no train. */
    static final String[] RULED = {"rule: pull 1", "rule: pull hole+1", "seed 5"};
    /** Four people, one of them yet to get in; acts of each kind, logs, images, a rule in force, bytes on the tape. */
    static final String[] RICH = {"rule: pull 3 if warm>25;pull middle", "rule: pull hole+1 if soon<3;pull most",
        "train: train 22 2 3;hole 1;person 0 0 200 20 8;person 5 0 4 25 4;person 1 2 240 18 12;person 3 0 240 22 6;"
            + "person 6 30 31 0 0;front 2;says 1 11;says 2 0;tunnel 2 4;tunnel 8 8;cold 1 3 2;cold 3 5 1",
        "force 0", "seed 77", "log 0 22", "log 2 20", "pull 4", "turn 3", "mile", "say 0 -3", "seats 0 3", "mile", "image 1",
        "turn 0", "mile", "log -1 0", "log 1 22", "pull 2", "image 3", "say 2 5", "force 1", "seed 78", "tape: pull 2+soon"};
    /** The same with no mile left. */
    static final String[] OVER = then(miles(then(new String[] {"rule: pull 2"}, "train: train 30 1 2;hole 3;"
        + "person 0 0 240 20 8;person 7 5 9 10 0;tunnel 239 239"), 239), "image 2", "mile");

    private static final List<String[]> PROBES = new ArrayList<>();
    private static final Map<String, String> KNOWN = new HashMap<>();

    private Edges() {
    }

    static String[] then(String[] given, String... more) {
        String[] all = new String[given.length + more.length];
        System.arraycopy(given, 0, all, 0, given.length);
        System.arraycopy(more, 0, all, given.length, more.length);
        return all;
    }

    static String[] miles(String[] given, int n) {
        return times(given, n, "mile");
    }

    static String[] times(String[] given, int n, String call) {
        String[] more = new String[n];
        java.util.Arrays.fill(more, call);
        return then(given, more);
    }

    static String[] on(String train, String... more) {
        return then(new String[] {"train: " + train}, more);
    }

    /** Rows of a call and what it must answer, one behind the other. */
    static void due(String sentence, String[] given, Object... rows) {
        Script script = Script.of(given);
        for (int i = 0; i < rows.length; i += 2) {
            Window.due(sentence + ": " + rows[i], script.make((String) rows[i]), (Integer) rows[i + 1]);
        }
    }

    /** Each of these calls answers so, and by it nothing changes. */
    static void nothing(String sentence, String[] given, int want, String... calls) {
        for (String call : calls) {
            Window.due(sentence + ": " + call, Script.of(given).make(call), want);
            alike(sentence + ": " + call, then(given, call), given);
        }
    }

    /** By what is asked nothing changes, whatever it answers. */
    static void asked(String sentence, String[] given, String... calls) {
        for (String call : calls) {
            alike(sentence + ": " + call, then(given, call), given);
        }
    }

    /** Behind both rows of calls all is alike. */
    static void alike(String sentence, String[] some, String[] others) {
        Window.same(sentence, seen(some), seen(others));
    }

    /** Behind these rows of calls not all is alike: guards against probes that see nothing. */
    static void unlike(String sentence, String[] some, String[] others) {
        Window.due(sentence + ": is seen", seen(some).equals(seen(others)) ? 0 : 1, 1);
    }

    private static String seen(String[] given) {
        String key = String.join("\n", given);
        String known = KNOWN.get(key);
        if (known != null) {
            return known;
        }
        StringBuilder seen = new StringBuilder();
        for (String[] probe : probes()) {
            Script script = Script.of(given);
            for (String call : probe) {
                seen.append(script.make(call)).append(' ');
            }
            seen.append('|');
        }
        KNOWN.put(key, seen.toString());
        return seen.toString();
    }

    private static List<String[]> probes() {
        if (PROBES.isEmpty()) {
            PROBES.add(all("count %d", 0, 14, all("seat %d", 0, 7, people(0, 9))));
            PROBES.add(all("stretch %d 0", 0, 239, NEW));
            PROBES.add(all("stretch %d 1", 0, 239, NEW));
            PROBES.add(asked());
            PROBES.add(byRules());
            PROBES.add(undone());
            PROBES.add(gone());
            PROBES.add(then(all("count %d", 8, 14, new String[] {"train"}), "count 0", "count 12", "count 14"));
            PROBES.add(then(new String[] {"rule"}, ridden()));
            PROBES.add(times(NEW, 12, "log 9 9"));
        }
        return PROBES;
    }

    private static String[] all(String form, int from, int to, String[] given) {
        String[] calls = new String[to - from + 1];
        for (int i = from; i <= to; i++) {
            calls[i - from] = String.format(form, i);
        }
        return then(given, calls);
    }

    private static String[] people(int from, int to) {
        String[] calls = NEW;
        for (int person = 0; person < 8; person++) {
            calls = all("person " + person + " %d", from, to, calls);
        }
        return calls;
    }

    private static String[] asked() {
        String[] calls = {"which 0 0", "which 0 1", "which 1 0", "which 1 1", "ruled 0", "ruled 1", "ruled 2"};
        calls = all("sit 0 %d", 0, 9, all("sit 1 %d", 0, 9, calls));
        for (int n : new int[] {0, 1, 2, 4, 9, 50, 200}) {
            calls = all("ahead " + n + " %d", 0, 2, calls);
        }
        calls = all("plan 24 %d", -1, 23, all("plan 3 %d", -1, 3, calls));
        for (int i = 0; i <= 60; i += 6) {
            calls = then(calls, "swing " + i, "look " + (i - 1));
        }
        return calls;
    }

    private static String[] byRules() {
        String[] calls = NEW;
        for (int rule = -1; rule < 6; rule++) {
            calls = all("comes " + rule + " 9 %d", 0, 2, all("comes " + rule + " 60 %d", 0, 2, calls));
            calls = all("rests " + rule + " 4 %d", 0, 3, calls);
            for (int person = 0; person < 3; person++) {
                calls = all("gains " + person + " " + rule + " 5 %d", 0, 1, calls);
            }
        }
        return then(calls, "journeys 3 7 60 0", "journeys 3 7 60 1", "journeys 10 60 30 0", "journeys 10 60 30 1");
    }

    private static String[] undone() {
        String[] calls = NEW;
        for (int i = 0; i < 21; i++) {
            calls = then(calls, "undo", "count 0", "count 1", "count 3", "count 10", "ahead 8 1", "ahead 8 2", "person 0 0",
                "person 1 6", "person 2 4", "person 0 5");
        }
        return calls;
    }

    private static String[] gone() {
        String[] calls = NEW;
        for (int k = 0; k < 4; k++) {
            calls = all("count %d", 0, 14, then(calls, "back " + k));
            calls = then(calls, "person 0 0", "person 1 1", "person 0 6", "person 2 4", "person 0 5", "ahead 9 1", "ahead 9 2",
                "ruled 0", "ruled 1", "undo", "undo", "count 3", "count 10");
        }
        return calls;
    }

    private static String[] ridden() {
        String[] calls = NEW;
        for (int rule = 0; rule < 6; rule++) {
            calls = then(calls, "force " + rule, "mile", "count 0", "count 3", "count 10", "person 0 4", "ahead 3 0", "ahead 6 1");
        }
        return calls;
    }
}
