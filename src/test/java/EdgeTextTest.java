/** The boundary cases of the tape and of the train's language: promises 1 to 4, and part I of the terms. */
public final class EdgeTextTest {
    private static final int NONE = StrapWindow.NONE;
    /** Each clause of a train: its word, and the least and the greatest of each of its numbers; person 0 and 1 are told. */
    private static final Object[][] CLAUSES = {
        {"hole", new int[] {0}, new int[] {5}},
        {"person", new int[] {0, 0, 1, 0, 0}, new int[] {7, 239, 240, 60, 20}},
        {"front", new int[] {0}, new int[] {1}},
        {"says", new int[] {0, 0}, new int[] {1, 18}},
        {"tunnel", new int[] {0, 0}, new int[] {239, 239}},
        {"cold", new int[] {0, 0, 1}, new int[] {239, 239, 4}}};
    private static final String BASE = "train 1 2 3;person 0 0 9 9 9;person 1 0 9 9 9;";

    public static void main(String[] args) {
        probesSee();
        newObject();
        feed();
        end();
        trainNumbers();
        clauseNumbers();
        milesOfPeopleAndStretches();
        missingAndSurplusNumbers();
        onceAndFirst();
        howMany();
        whatIsTold();
        bytes();
        ends();
        trainTaken();
        trainWithAFault();
        Window.close();
    }

    // What the other edge tests rest on: a change is seen by the probes, each kind of it.
    private static void probesSee() {
        String[] changes = {"feed 1 2 3 4 5", "end 9", "rule: pull 5", "force 0", "mile", "pull 5", "turn 1", "seats 0 3", "say 1 0",
            "undo", "log 7 7", "log -1 0", "seed 1", "image 0", "image 1", "back 1", "back 3", "train"};
        for (String change : changes) {
            Edges.unlike(change, Edges.then(Edges.RICH, change), Edges.RICH);
        }
        Edges.unlike("the bytes of the tape", Edges.then(Edges.RICH, "tape: pull 3+soon"), Edges.RICH);
    }

    private static void newObject() {
        for (int what = 0; what <= 14; what++) {
            Edges.nothing("1: no TRAIN, no RULES, none IN FORCE", Edges.NEW, what == 9 ? NONE : 0, "count " + what);
        }
        Edges.nothing("1: no RULES", Edges.NEW, -2, "force 0", "force 5");
        Edges.nothing("1: none IN FORCE", Edges.NEW, NONE, "force -1");
        Edges.nothing("1: nothing can be UNDONE", Edges.NEW, -2, "undo");
        Edges.nothing("1: no IMAGES", Edges.NEW, NONE, "back 0", "back 1", "back 2", "back 3");
    }

    private static String[] tapeOf(int bytes) {
        String text = "train 7 1 2";
        return new String[] {"tape: " + text + " ".repeat(bytes - text.length())};
    }

    private static void feed() {
        Edges.due("2: the first twenty", Edges.NEW, "feed 0 0 0 0 0", 20, "feed 0 0 0 0 0", 40);
        // t r a i, n blank 6 0, blank 3 blank 6, blanks
        Edges.due("2: of each number the highest first", Edges.NEW, "feed 1953653097 1847604784 540221494 538976288 538976288", 20,
            "train", 0, "count 0", 60, "count 1", 3, "count 2", 6);
        Edges.due("2: 400 at most", tapeOf(380), "feed 538976288 538976288 538976288 538976288 538976288", 400, "count 14", 400,
            "train", 0, "count 0", 7);
        for (int bytes : new int[] {381, 382, 399, 400}) {
            Edges.nothing("2: NONE, and none comes, with " + bytes, tapeOf(bytes), NONE, "feed 0 0 0 0 0", "feed -1 -1 -1 -1 -1",
                "feed " + Edges.LEAST + " " + Edges.MOST + " 0 0 0");
        }
        Edges.due("2: behind the TAPE", tapeOf(11), "feed 808464432 538976288 538976288 538976288 538976288", 31, "train",
            Window.fault(10, 1));
        Edges.due("2: behind what end left", tapeOf(40), "end 10", 10, "feed 874520608 538976288 538976288 538976288 538976288", 30,
            "train", 0, "count 2", 4);
    }

    private static void end() {
        Edges.nothing("3: of an empty TAPE", Edges.NEW, 0, "end 0");
        Edges.nothing("3: not so many", Edges.NEW, NONE, "end 1", "end 20", "end 400", "end " + Edges.MOST);
        Edges.nothing("3: below 0", Edges.NEW, NONE, "end -1", "end " + Edges.LEAST);
        for (int bytes : new int[] {11, 20, 399, 400}) {
            Edges.nothing("3: all of them", tapeOf(bytes), bytes, "end " + bytes);
            Edges.nothing("3: not so many", tapeOf(bytes), NONE, "end " + (bytes + 1), "end 401", "end " + Edges.MOST);
            Edges.nothing("3: below 0", tapeOf(bytes), NONE, "end -1", "end " + Edges.LEAST);
        }
        Edges.due("3: its first n bytes alone", tapeOf(20), "end 10", 10, "count 14", 10, "train", Window.fault(10, 0));
        Edges.due("3: none", tapeOf(20), "end 0", 0, "count 14", 0, "train", Window.fault(0, 0));
        Edges.due("3: what is gone is gone", tapeOf(20), "end 19", 19, "end 20", NONE, "count 14", 19);
        Edges.nothing("3: not so many", Edges.RICH, NONE, "end 12", "end -1");
    }

    /** A train that is taken, with so many people, and what is seen of it then. */
    private static void taken(String sentence, String text, int people, Object... rows) {
        String said = sentence + ", \"" + text + "\"";
        Window.due(said, Script.of(Edges.RICH).make("train: " + text), people);
        Edges.due(said, new String[] {"train: " + text}, rows);
    }

    /** A train that has this fault: the tape is empty then, and all else stays. */
    private static void fault(String sentence, String text, int place, int kind) {
        String said = sentence + ", \"" + text + "\"";
        Window.due(said, Script.of(Edges.NEW).make("train: " + text), Window.fault(place, kind));
        Window.due(said, Script.of(Edges.RICH).make("train: " + text), Window.fault(place, kind));
        Edges.alike(said, Edges.then(Edges.RICH, "train: " + text), Edges.then(Edges.RICH, "end 0"));
    }

    private static void trainNumbers() {
        taken("WARMTH, KNOB, LAG from 0 on", "train 0 0 0", 0, "count 0", 0, "count 1", 0, "count 2", 0);
        taken("WARMTH to 60, KNOB to 3, LAG to 6", "train 60 3 6", 0, "count 0", 60, "count 1", 3, "count 2", 6);
        fault("WARMTH 0 to 60", "train 61 3 6", 6, 1);
        fault("KNOB 0 to 3", "train 60 4 6", 9, 1);
        fault("LAG 0 to 6", "train 60 3 7", 11, 1);
        fault("WARMTH 0 to 60", "train -1 0 0", 6, 0);
        fault("KNOB 0 to 3", "train 0 -1 0", 8, 0);
        fault("LAG 0 to 6", "train 0 0 -1", 10, 0);
        taken("5 digits", "train 00060 00003 00006", 0, "count 0", 60, "count 1", 3, "count 2", 6);
        fault("6 digits", "train 000060 3 6", 6, 1);
        fault("6 digits", "train 60 000003 6", 9, 1);
        fault("6 digits", "train 60 3 000006", 11, 1);
        fault("as far as digits go on", "train " + "0".repeat(394), 6, 1);
        fault("more than 32 bits", "train 4294967296 3 6", 6, 1);
    }

    // Numbers ahead of the one in question are the least ones; behind it the greatest ones, if it is great.
    private static String clause(Object[] clause, int at, String number, boolean great) {
        int[] least = (int[]) clause[1];
        int[] greatest = (int[]) clause[2];
        StringBuilder text = new StringBuilder(BASE).append(clause[0]);
        for (int i = 0; i < least.length; i++) {
            text.append(' ').append(i == at ? number : Integer.toString(i > at && great ? greatest[i] : least[i]));
        }
        return text.toString();
    }

    private static int placeOf(Object[] clause, int at) {
        // Ahead of it there are only least ones, of a digit each.
        return BASE.length() + ((String) clause[0]).length() + 1 + 2 * at;
    }

    private static void clauseNumbers() {
        for (Object[] clause : CLAUSES) {
            int[] least = (int[]) clause[1];
            int[] greatest = (int[]) clause[2];
            int people = clause[0].equals("person") ? 3 : 2;
            for (int at = 0; at < least.length; at++) {
                String said = clause[0] + ", number " + at;
                taken(said + ": the least", clause(clause, at, "" + least[at], false), people);
                taken(said + ": the greatest", clause(clause, at, "" + greatest[at], true), people);
                fault(said + ": above it", clause(clause, at, "" + (greatest[at] + 1), true), placeOf(clause, at), 1);
                if (least[at] > 0) {
                    fault(said + ": below it", clause(clause, at, "" + (least[at] - 1), false), placeOf(clause, at), 1);
                }
                fault(said + ": below 0", clause(clause, at, "-1", false), placeOf(clause, at), 0);
                taken(said + ": 5 digits", clause(clause, at, String.format("%05d", greatest[at]), true), people);
                fault(said + ": 6 digits", clause(clause, at, String.format("%06d", greatest[at]), true), placeOf(clause, at), 1);
                fault(said + ": 99999", clause(clause, at, "99999", true), placeOf(clause, at), 1);
            }
        }
    }

    private static void milesOfPeopleAndStretches() {
        taken("OUT above IN", BASE + "person 0 100 101 0 0", 3);
        fault("OUT above IN", BASE + "person 0 100 100 0 0", BASE.length() + 13, 1);
        fault("OUT above IN", BASE + "person 0 100 99 0 0", BASE.length() + 13, 1);
        taken("OUT above IN", BASE + "person 0 239 240 0 0", 3);
        fault("OUT above IN", BASE + "person 0 239 239 0 0", BASE.length() + 13, 1);
        fault("OUT 240 at most", BASE + "person 0 239 241 0 0", BASE.length() + 13, 1);
        for (String word : new String[] {"tunnel", "cold"}) {
            int place = BASE.length() + word.length() + 5;
            String rest = word.equals("cold") ? " 2" : "";
            int what = rest.isEmpty() ? 0 : 1;
            int there = 1 + what;
            taken("the last not below the first", BASE + word + " 100 100" + rest, 2, "stretch 99 " + what, 0,
                "stretch 100 " + what, there, "stretch 101 " + what, 0);
            taken("the last not below the first", BASE + word + " 100 101" + rest, 2, "stretch 99 " + what, 0,
                "stretch 100 " + what, there, "stretch 101 " + what, there, "stretch 102 " + what, 0);
            fault("the last not below the first", BASE + word + " 100 99" + rest, place, 1);
            taken("MILES 0 to 239", BASE + word + " 0 239" + rest, 2, "stretch 0 " + what, there, "stretch 239 " + what, there);
            taken("MILES 0 to 239", BASE + word + " 239 239" + rest, 2, "stretch 238 " + what, 0, "stretch 239 " + what, there);
            fault("MILES 0 to 239", BASE + word + " 239 240" + rest, place, 1);
        }
    }

    private static void missingAndSurplusNumbers() {
        for (Object[] clause : CLAUSES) {
            int[] least = (int[]) clause[1];
            StringBuilder text = new StringBuilder(BASE).append(clause[0]);
            for (int at = 0; at < least.length; at++) {
                String said = clause[0] + ", without number " + at;
                fault(said, text.toString(), text.length(), 0);
                fault(said, text + "  ", text.length() + 2, 0);
                fault(said, text + ";", text.length(), 0);
                fault(said, text + " hole", text.length() + 1, 0);
                fault(said, text + " [", text.length() + 1, 0);
                text.append(' ').append(least[at]);
            }
            fault(clause[0] + ", one too many", text + " 0", text.length() + 1, 0);
            fault(clause[0] + ", one too many", text + " 000000", text.length() + 1, 0);
            fault(clause[0] + ", a word behind it", text + " hole", text.length() + 1, 0);
            fault(clause[0] + ", nothing behind the sign", text + ";", text.length() + 1, 0);
        }
        fault("train, without a number", "train", 5, 0);
        fault("train, without a number", "train 1", 7, 0);
        fault("train, without a number", "train 1 1", 9, 0);
        fault("train, one too many", "train 1 1 1 1", 12, 0);
    }

    private static void onceAndFirst() {
        String[] others = {"hole 0", "person 0 0 1 0 0", "front 0", "says 0 0", "tunnel 0 0", "cold 0 0 1"};
        for (String other : others) {
            fault("another CLAUSE ahead of train", other, 0, 4);
            fault("another CLAUSE ahead of train", "  " + other + ";train 1 1 1", 2, 4);
            fault("another CLAUSE ahead of train, at its first byte", other.substring(0, other.indexOf(' ')), 0, 4);
        }
        fault("a second train", "train 1 1 1;train 1 1 1", 12, 4);
        fault("a second train, at its first byte", "train 1 1 1; train", 13, 4);
        fault("a second train behind others", BASE + "hole 1;train 1 1 1", BASE.length() + 7, 4);
        taken("hole once", "train 1 1 1;hole 5", 0, "count 3", 5);
        taken("0 without", "train 1 1 1", 0, "count 3", 0);
        fault("a second hole", "train 1 1 1;hole 5;hole 5", 19, 4);
        fault("a second hole, 0 too", "train 1 1 1;hole 0;hole 0", 19, 4);
        fault("a second hole, at its first byte", BASE + "hole 5;tunnel 0 0;hole 9", BASE.length() + 18, 4);
    }

    private static void howMany() {
        String person = ";person 0 0 9 9 9";
        String eight = "train 1 2 3" + person.repeat(8);
        taken("no PEOPLE", "train 1 2 3", 0, "count 4", 0, "count 5", 0, "person 0 1", -100);
        taken("PEOPLE 0 to 7", eight, 8, "count 4", 8, "person 7 1", 1, "person 8 1", -100);
        fault("a ninth PERSON", eight + person, eight.length() + 1, 4);
        fault("a ninth PERSON, at its first byte", eight + "; person", eight.length() + 2, 4);
        String tunnel = ";tunnel 7 7";
        String five = "train 1 2 3" + tunnel.repeat(5);
        taken("no TUNNELS", "train 1 2 3", 0, "count 6", 0, "stretch 7 0", 0);
        taken("TUNNELS 0 to 4", five, 0, "count 6", 5, "stretch 7 0", 1);
        taken("the fifth TUNNEL", "train 1 2 3" + tunnel.repeat(4) + ";tunnel 9 9", 0, "stretch 9 0", 1);
        fault("a sixth TUNNEL", five + tunnel, five.length() + 1, 4);
        fault("a sixth TUNNEL, at its first byte", five + ";tunnel", five.length() + 1, 4);
        String cold = ";cold 7 7 4";
        String colds = "train 1 2 3" + cold.repeat(5);
        taken("no COLDS", "train 1 2 3", 0, "count 7", 0, "stretch 7 1", 0);
        taken("COLDS 0 to 4, together", colds, 0, "count 7", 5, "stretch 7 1", 20, "stretch 6 1", 0, "stretch 8 1", 0);
        fault("a sixth COLD", colds + cold, colds.length() + 1, 4);
        fault("a sixth COLD, at its first byte", colds + ";cold x", colds.length() + 1, 4);
        String forty = "train 1 2 3;person 0 0 9 9 9" + ";front 0".repeat(38);
        taken("40 CLAUSES at most", forty, 1, "person 0 9", 1);
        for (String more : new String[] {"train 1 1 1", "hole 1", "person 0 0 1 0 0", "front 0", "says 0 0", "tunnel 0 0", "cold 0 0 1"}) {
            if (forty.length() + 1 + more.length() <= 400) {
                fault("one CLAUSE too many", forty + ";" + more, forty.length() + 1, 4);
            }
        }
        fault("one CLAUSE too many, at its first byte", forty + "; front", forty.length() + 2, 4);
        fault("of one place the least", forty + ";fronts 0", forty.length() + 1, 0);
        fault("of one place the least", forty + ";", forty.length() + 1, 0);
        fault("of one place the least", eight + ";persons", eight.length() + 1, 0);
        fault("of one place the least", "hol 1", 0, 0);
    }

    private static void whatIsTold() {
        taken("9 without", BASE + "says 1 0", 2, "person 0 6", 0, "person 1 6", -9);
        taken("of one the last told", BASE + "says 1 0;says 0 5;says 1 18", 2, "person 0 6", -4, "person 1 6", 9);
        taken("9 is no LIE", BASE + "says 1 0;says 1 9", 2, "person 1 6", 0);
        taken("front told twice", BASE + "front 1;front 1", 2, "person 0 9", 0, "person 1 9", 1);
        fault("a PERSON that was told", "train 1 2 3;front 0", 18, 1);
        fault("a PERSON that was told", "train 1 2 3;says 0 9", 17, 1);
        fault("a PERSON that was told, not later", "train 1 2 3;front 0;person 0 0 9 9 9", 18, 1);
        fault("a PERSON that was told, not later", BASE + "says 2 9;person 0 0 9 9 9", BASE.length() + 5, 1);
        taken("a PERSON that was told", BASE + "person 0 0 9 9 9;front 2;says 2 10", 3, "person 2 9", 1, "person 2 6", 1);
        taken("it is MILE 0; nobody has suffered", "train 60 0 0;person 0 0 9 0 20", 1, "count 10", 0, "person 0 5", 0,
            "person 0 4", 0, "ahead 0 2", 0);
    }

    // Every byte there is, behind a whole clause and ahead of the first one.
    private static void bytes() {
        for (int b = 0; b < 256; b++) {
            boolean digit = b >= '0' && b <= '9';
            int behind = b == ' ' ? 0 : b == ';' ? Window.fault(12, 0) : digit ? Window.fault(10, 1) : Window.fault(11, 0);
            Window.due("byte " + b + " behind a CLAUSE", Script.of(Edges.NEW).make("train: train 1 1 1" + (char) b), behind);
            Window.due("byte " + b + " ahead of train", Script.of(Edges.NEW).make("train: " + (char) b + "train 1 1 1"),
                b == ' ' ? 0 : Window.fault(0, 0));
            Window.due("byte " + b + " between", Script.of(Edges.NEW).make("train: train" + (char) b + "1 1 1"),
                b == ' ' ? 0 : b >= 'a' && b <= 'z' ? Window.fault(0, 0) : digit ? b <= '5' ? 0 : Window.fault(5, 1)
                    : Window.fault(5, 0));
        }
        taken("Blanks stand between as one likes", "train1 1 1;hole5", 0, "count 3", 5);
        taken("Blanks stand between as one likes", "   train   1   1   1   ;   hole   5   ", 0, "count 3", 5);
        fault("Blanks do not stand within a word", "tra in 1 1 1", 0, 0);
        taken("a blank makes two NUMBERS", "train 1 1 1;cold1 1 1", 0, "stretch 1 1", 1);
        fault("without one it is one", "train 1 1 1;cold1 11", 20, 0);
    }

    private static void ends() {
        fault("the end, of an empty text", "", 0, 0);
        fault("the end, behind the last byte", " ", 1, 0);
        fault("the end, behind the last byte", " ".repeat(400), 400, 0);
        fault("the end, behind the last byte", "train 1 1 1;" + " ".repeat(388), 400, 0);
        fault("the last byte", "train 1 1 1" + " ".repeat(388) + "x", 399, 0);
        taken("a text of 400 bytes", "train 1 1 1" + " ".repeat(383) + ";hole5", 0, "count 3", 5);
        fault("the first along the text", "train 61 9 9;hole 9;train", 6, 1);
        fault("the first along the text", "train 1 9 9;;", 8, 1);
    }

    private static void trainTaken() {
        String[] rules = {"rule: pull 1", "rule: pull 2 if warm>3"};
        String told = "train: train 33 2 5;hole 3;person 7 0 1 0 0;tunnel 1 1";
        String[] fresh = Edges.then(rules, "force 1", "seed 78", told);
        String[] used = Edges.then(rules, "force 0", "train: " + BASE + "says 1 2;cold 0 9 1", "log 0 1", "log 3 3", "pull 4", "mile",
            "turn 1", "say 0 3", "seats 0 1", "mile", "force 1", "seed 78", told);
        Edges.alike("4: in place of the one there was", used, fresh);
        Edges.due("4: no LOGS, nothing to be UNDONE; the RULE IN FORCE and x stay", used, "count 11", 0, "count 12", 0, "undo", -2,
            "count 9", 1, "count 13", 78, "count 8", 2, "count 14", 0, "count 10", 0);
        Edges.due("4: IMAGES stay", Edges.then(Edges.RICH, told), "back 0", NONE, "back 3", 3, "count 4", 5);
        Edges.due("4: the TAPE is empty then", fresh, "train", Window.fault(0, 0));
    }

    private static void trainWithAFault() {
        for (String[] given : new String[][] {Edges.NEW, Edges.RULED, Edges.RICH, Edges.OVER}) {
            Edges.alike("4: all stays", Edges.then(given, "train: train 1 1 7"), Edges.then(given, "end 0"));
            Edges.alike("4: all stays", Edges.then(given, "train: "), Edges.then(given, "end 0"));
        }
    }
}
