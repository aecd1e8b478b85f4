/** The boundary cases of what is asked: promises 17 to 27 and 29, and part III of the terms. */
public final class EdgeAskTest {
    private static final int NONE = StrapWindow.NONE;
    private static final int LEAST = Edges.LEAST;
    private static final int MOST = Edges.MOST;
    private static final String[] WITHOUT_TRAIN = Edges.then(Edges.RULED, "force 1");

    public static void main(String[] args) {
        nothingChanges();
        ahead();
        which();
        sit();
        sitAll();
        plan();
        planRows();
        plansByHand();
        comes();
        gains();
        gainsOfSeveral();
        rests();
        restsOfFewer();
        swing();
        swingsByHand();
        log();
        ruled();
        look();
        journeys();
        draws();
        Window.close();
    }

    /** With so many miles left, and two rules. */
    private static String[] left(int miles) {
        return Edges.miles(Edges.on("train 30 1 2;hole 3;person 0 0 240 20 8;person 7 5 9 10 0;person 1 200 240 9 9;tunnel 239 239",
            "rule: pull 2", "rule: pull middle"), 240 - miles);
    }

    private static void nothingChanges() {
        Edges.asked("by what is asked nothing changes", Edges.RICH, "ahead 0 0", "ahead 9 2", "ahead 237 1", "which 0 0", "which 1 1",
            "sit 0 0", "sit 1 5", "plan 24 -1", "plan 24 23", "plan 2 2", "comes -1 60 0", "comes 0 9 1", "comes 1 60 2", "gains 0 0 60 0",
            "gains 2 1 9 1", "rests 0 12 0", "rests 1 5 3", "swing 0", "swing 30", "swing 60", "ruled 0", "ruled 2", "look -1", "look 60",
            "journeys 10 60 100 0", "journeys 1 1 0 1", "journeys 3 9 50 0");
        Edges.asked("by what is asked nothing changes", Edges.OVER, "ahead 0 2", "which 0 0", "sit 1 0", "swing 30", "ruled 0", "look -1");
    }

    private static void ahead() {
        Edges.nothing("17: NONE without a TRAIN", WITHOUT_TRAIN, NONE, "ahead 0 0", "ahead 1 2");
        Edges.nothing("17: n 0 to the MILES left", Edges.RICH, NONE, "ahead -1 0", "ahead 238 0", "ahead 240 0", "ahead " + LEAST + " 0",
            "ahead " + MOST + " 0");
        Edges.nothing("17: what 0 to 2", Edges.RICH, NONE, "ahead 0 -1", "ahead 0 3", "ahead 1 " + LEAST, "ahead 1 " + MOST);
        Edges.due("17: none ahead: as it is", Edges.on("train 33 1 1;hole 4;person 0 0 9 33 20", "mile"), "ahead 0 0", 4, "ahead 0 1", 30,
            "ahead 0 2", 16, "ahead 1 2", 16 + 9 + 16);
        Edges.due("17: all the MILES", Edges.on("train 33 1 1"), "ahead 240 0", 0, "ahead 240 1", 60, "ahead 240 2", 0, "ahead 241 0", NONE);
        Edges.due("17: the MILES left", left(1), "ahead 1 0", 3, "ahead 1 1", 0, "ahead 2 0", NONE, "ahead -1 0", NONE);
        Edges.nothing("17: at the end", Edges.OVER, NONE, "ahead 1 0", "ahead 1 1", "ahead 1 2");
        Edges.due("17: at the end", Edges.OVER, "ahead 0 0", 3, "ahead 0 1", 0);
        Edges.due("17: by the RULE IN FORCE", Edges.on("train 20 0 0;hole 1", "rule: pull hole+1", "force 0"), "ahead 0 0", 1, "ahead 1 0", 2,
            "ahead 3 0", 4, "ahead 4 0", 5, "ahead 240 0", 5, "ahead 1 1", 17, "force -1", 0, "ahead 9 0", 1);
    }

    private static void which() {
        Edges.nothing("18: NONE without a TRAIN", WITHOUT_TRAIN, NONE, "which 0 0", "which 1 0", "which 0 1", "which 1 1");
        Edges.nothing("18: NONE for others", Edges.RICH, NONE, "which 0 -1", "which 1 -1", "which 0 2", "which 1 2", "which 0 " + LEAST,
            "which 1 " + MOST);
        Edges.due("18: nobody", Edges.on("train 20 0 0;hole 3"), "which 0 0", 0, "which 0 1", 0, "which 1 0", 0, "which 1 1", 0);
        Edges.due("18: nobody at the end", Edges.OVER, "which 0 0", 0, "which 0 1", 0, "which 1 0", 0, "which 1 1", 0);
        Edges.due("18: the least HOLE", Edges.on("train 20 0 0;hole 3;person 0 0 9 20 0"), "which 0 0", 0, "which 0 1", 0);
        Edges.due("18: the greatest HOLE", Edges.on("train 20 0 0;hole 3;person 0 0 9 20 20"), "which 0 0", 5, "which 0 1", 0, "which 1 0", 5);
        Edges.due("18: no HOLE above 5", Edges.on("train 20 0 0;person 3 0 9 20 20"), "which 0 0", 5, "which 0 1", 225, "which 1 0", 5,
            "which 1 1", 225);
        for (int hole = 0; hole < 6; hole++) {
            Edges.due("18: each HOLE", Edges.on("train 20 0 0;person 3 0 9 20 " + hole), "which 0 0", hole, "which 1 0", hole);
        }
        Edges.due("18: of all the least", Edges.on("train 20 0 0;hole 3;person 7 0 9 20 5"), "which 0 0", 0, "which 0 1", 25, "which 1 0", 0,
            "which 1 1", 25);
        // by HOLE 2 and by 3 9 + 4
        Edges.due("18: of two the least", Edges.on("train 20 0 0;person 3 0 9 20 5;person 6 0 9 20 0"), "which 0 0", 2, "which 0 1", 13,
            "which 1 0", 2, "which 1 1", 9);
        // by HOLE 2 0 and 1 SUFFER 4 each, 3 4; by 1 1 each and 16, by 3 9 each
        Edges.due("18: together, or who SUFFERS most", Edges.on("train 20 0 0;person 3 0 9 20 0;person 6 0 9 20 0;person 7 0 9 20 0;"
            + "person 2 0 9 20 6"), "which 0 0", 2, "which 0 1", 4 + 4 + 0 + 4, "which 1 0", 2, "which 1 1", 4);
        Edges.due("18: in a tunnel", Edges.on("train 20 0 0;person 3 0 9 20 5;tunnel 0 0"), "which 0 0", 0, "which 0 1", 25, "mile", 25,
            "which 0 0", 5, "which 0 1", 1);
        Edges.due("18: not by LIES", Edges.on("train 20 0 0;person 3 0 9 20 2;says 0 18"), "which 0 0", 2, "which 0 1", 0);
    }

    private static void sit() {
        Edges.nothing("19: NONE without a TRAIN", WITHOUT_TRAIN, NONE, "sit 0 0", "sit 1 1", "sit 0 9");
        Edges.nothing("19: NONE without these", Edges.RICH, NONE, "sit 0 -1", "sit 1 -1", "sit 0 10", "sit 1 10", "sit 0 " + LEAST,
            "sit 1 " + MOST);
        Edges.due("19: nobody sits", Edges.on("train 20 0 0;hole 3;person 0 5 9 9 9"), "sit 0 0", 0, "sit 0 1", 3, "sit 0 2", NONE, "sit 0 9", NONE,
            "sit 1 0", 0, "sit 1 1", 0, "sit 1 2", NONE);
        Edges.due("19: nobody sits at the end", Edges.OVER, "sit 0 0", 0, "sit 0 1", 3, "sit 1 1", 0, "sit 0 2", NONE);
        // four get OUT at 1; who stands is left alone
        String[] stands = Edges.miles(Edges.on("train 20 0 0;hole 3;person 0 0 1 9 9;person 1 0 1 9 9;person 2 0 1 9 9;person 3 0 1 9 9;"
            + "person 0 0 9 9 9;front 4"), 1);
        Edges.due("19: one stands, nobody sits", stands, "person 4 1", 1, "person 4 0", NONE, "sit 0 0", 0, "sit 0 1", 3, "sit 0 6", NONE, "sit 1 0", 0,
            "sit 1 1", 0);
        Edges.due("19: those they have", Edges.on("train 20 0 0;hole 5;person 7 0 9 20 20"), "sit 0 0", 400, "sit 0 1", 5, "sit 0 2", 7, "sit 0 3",
            NONE);
        Edges.due("19: of several the least HOLE", Edges.on("train 20 0 0;hole 5;person 7 0 9 20 20"), "sit 1 0", 400, "sit 1 1", 0, "sit 1 2", 7);
        Edges.due("19: no HOLE above 5", Edges.on("train 20 0 0;person 3 0 9 20 20"), "sit 1 0", 225, "sit 1 1", 5, "sit 0 0", 400, "sit 0 1", 0);
        Edges.due("19: of several the first way", Edges.on("train 20 0 0;person 5 0 9 20 4;person 2 0 9 20 4;person 7 0 9 20 4"), "sit 0 0", 48,
            "sit 0 2", 2, "sit 0 3", 5, "sit 0 4", 7);
        // by HOLE 2 AIR is 8 in SEAT 0 and 0 in 7; by no other is it better
        Edges.due("19: by any HOLE", Edges.on("train 20 0 0;person 0 0 9 20 0;person 7 0 9 20 8"), "sit 0 0", 64, "sit 0 1", 0, "sit 0 2", 0, "sit 0 3", 7,
            "sit 1 0", 0, "sit 1 1", 2, "sit 1 2", 7, "sit 1 3", 0);
        Edges.due("19: nobody who won't ride backwards in 4 to 7", Edges.on("train 20 0 0;hole 2;person 3 0 9 20 6;person 4 0 9 20 2;front 0"),
            "sit 0 0", 32, "sit 0 2", 3, "sit 0 3", 4);
        Edges.due("19: who rides backwards changes", Edges.on("train 20 0 0;hole 2;person 3 0 9 20 6;person 4 0 9 20 2"), "sit 0 0", 0, "sit 0 2", 4,
            "sit 0 3", 3);
        Edges.due("19: now, in a tunnel", Edges.on("train 20 0 0;hole 5;person 7 0 9 10 0;tunnel 0 0"), "sit 0 0", 145, "sit 1 0", 100, "sit 1 1", 0);
    }

    private static void sitAll() {
        // by HOLE 1 AIR is 4 3 2 1 3 2 1 0; of two SEATS with as much the lesser goes to the lesser number
        String all = "train 20 0 0;hole 1;person 0 0 9 20 0;person 1 0 9 20 1;person 2 0 9 20 2;person 3 0 9 20 3;person 4 0 9 20 1;"
            + "person 5 0 9 20 2;person 6 0 9 20 3;person 7 0 9 20 4";
        int[] due = {0, 1, 7, 3, 2, 1, 6, 5, 4, 0};
        for (int what = 0; what <= 9; what++) {
            Edges.due("19: all eight sit", Edges.on(all), "sit 0 " + what, due[what], "sit 1 " + what, due[what]);
        }
        // all wish none: any way is as good, so the first one is as they sit
        Edges.due("19: all eight sit, two won't ride backwards", Edges.on("train 20 0 0;hole 5;person 0 0 9 20 0;person 1 0 9 20 0;"
            + "person 2 0 9 20 0;person 3 0 9 20 0;person 4 0 9 20 0;person 5 0 9 20 0;person 6 0 9 20 0;person 7 0 9 20 0;front 0;front 3"),
            "sit 0 0", 400 + 225 + 100 + 25 + 225 + 100 + 25, "sit 0 2", 0, "sit 0 3", 1, "sit 0 4", 2, "sit 0 5", 3, "sit 0 6", 4, "sit 0 9", 7);
    }

    private static void plan() {
        Edges.nothing("20: -3 without a TRAIN", WITHOUT_TRAIN, -3, "plan 1 -1", "plan 1 0", "plan 24 23");
        Edges.nothing("20: n 1 to 24", Edges.RICH, -3, "plan 0 -1", "plan 0 0", "plan -1 0", "plan 25 -1", "plan 25 0", "plan " + LEAST + " 0",
            "plan " + MOST + " 0");
        Edges.nothing("20: what NONE to 23", Edges.RICH, -3, "plan 24 -2", "plan 24 24", "plan 1 24", "plan 1 " + LEAST, "plan 1 " + MOST);
        Edges.nothing("20: -2: so many there are not", Edges.RICH, -2, "plan 1 1", "plan 1 23", "plan 2 2", "plan 23 23");
        for (int miles : new int[] {1, 2, 23, 24}) {
            Edges.nothing("20: n above the MILES left", left(miles), -3, "plan " + (miles + 1) + " -1", "plan " + (miles + 1) + " 0");
            Window.due("20: n the MILES left", Script.of(left(miles)).make("plan " + miles + " -1") >= 0 ? 1 : 0, 1);
            Window.due("20: the last of them", Script.of(left(miles)).make("plan " + miles + " " + (miles - 1)) >= 0 ? 1 : 0, 1);
        }
        Edges.nothing("20: at the end", Edges.OVER, -3, "plan 1 -1", "plan 1 0", "plan 1 1", "plan 0 -1");
    }

    private static void planIs(String sentence, String[] given, int n, int much, int... holes) {
        Edges.due(sentence, given, "plan " + n + " -1", much);
        for (int i = 0; i < n; i++) {
            Edges.due(sentence, given, "plan " + n + " " + i, holes[Math.min(i, holes.length - 1)]);
        }
    }

    // At WARMTH 0 and KNOB 0 it stays at 0, so that AIR alone counts.
    private static void planRows() {
        planIs("nobody: the first row", Edges.on("train 0 0 0;hole 5"), 24, 0, 4, 3, 2, 1, 0);
        planIs("nobody: the first row", Edges.on("train 30 2 1;hole 1"), 24, 0, 0);
        planIs("each by 1 at most, up to 5", Edges.on("train 0 0 0;person 0 0 240 0 20"), 24, 256 + 144 + 64 + 16, 1, 2, 3, 4, 5);
        planIs("each by 1 at most, down to 0", Edges.on("train 0 0 0;hole 5;person 0 0 240 0 0"), 24, 256 + 144 + 64 + 16, 4, 3, 2, 1, 0);
        planIs("the first one from the HOLE now", Edges.on("train 0 0 0;hole 2;person 0 0 240 0 20"), 1, 64, 3);
        planIs("the first one from the HOLE now", Edges.on("train 0 0 0;hole 5;person 0 0 240 0 20"), 1, 0, 5);
        planIs("the first one from the HOLE now", Edges.on("train 0 0 0;hole 4;person 0 0 240 0 0", "pull 2"), 1, 16, 1);
        planIs("of several the first row", Edges.on("train 0 0 0;hole 3;person 7 0 240 0 9"), 4, 4 * 81, 2, 1, 0, 0);
        // AIR 4 and 8 are as near to 6
        planIs("of several the first row", Edges.on("train 0 0 0;hole 2;person 0 0 240 0 6"), 3, 12, 1, 1, 1);
        planIs("the RULE is not asked", Edges.on("train 0 0 0;hole 2;person 0 0 240 0 8", "rule: pull 5", "force 0"), 2, 0, 2, 2);
        // WARMTH 10, then 9 - h0, then 14 - h0 - h1 by the KNOB turned: 0 + 4 + 1 by 1, 2
        planIs("KNOB as it is, and LAG", Edges.on("train 10 0 1;person 7 0 240 10 0", "turn 3"), 3, 5, 1, 2, 1);
        planIs("who gets IN and OUT", Edges.on("train 0 0 0;person 0 1 2 0 12"), 4, 16, 1, 2, 1, 0);
        // by HOLE 3 9 each and 16
        planIs("all together", Edges.on("train 0 0 0;hole 3;person 3 0 240 0 0;person 6 0 240 0 0;person 2 0 240 0 10"), 1, 34, 3);
        // behind the COLD it is 5 - HOLE
        planIs("COLDS", Edges.on("train 10 0 0;hole 1;person 7 0 240 10 0;cold 0 0 4"), 2, 25, 0, 0);
        planIs("a tunnel", Edges.on("train 0 0 0;hole 1;person 3 0 240 0 1;tunnel 1 1"), 3, 1, 1, 0, 1);
    }

    // The least of all rows, each gone by hand.
    private static void plansByHand() {
        String[][] rides = {Edges.on("train 14 1 0;hole 2;person 7 0 240 10 0"), Edges.on("train 30 3 2;hole 4;person 0 0 2 24 9;person 5 1 240 31 4", "turn 0"),
            Edges.on("train 9 2 1;person 2 0 240 12 7;person 6 2 3 60 0;tunnel 1 2;cold 0 1 3;cold 1 3 1"), Edges.RICH,
            Edges.on("train 59 3 0;hole 1;person 1 0 240 60 3"), Edges.on("train 2 0 0;hole 1;person 1 0 240 0 3")};
        for (String[] ride : rides) {
            for (int n = 1; n <= 4; n++) {
                byHand(ride, n);
            }
        }
    }

    private static void byHand(String[] ride, int n) {
        int rows = 1;
        for (int i = 0; i < n; i++) {
            rows *= 6;
        }
        int least = MOST;
        String best = "";
        for (int row = 0; row < rows; row++) {
            String holes = String.format("%" + n + "s", Integer.toString(row, 6)).replace(' ', '0');
            int much = ridden(Edges.then(ride, "force -1"), holes, least);
            if (much < least) {
                least = much;
                best = holes;
            }
        }
        Window.due("20: by hand, " + n + " MILES, how much", Script.of(ride).make("plan " + n + " -1"), least);
        for (int i = 0; i < n; i++) {
            Window.due("20: by hand, " + n + " MILES, HOLE " + i, Script.of(ride).make("plan " + n + " " + i), best.charAt(i) - '0');
        }
    }

    private static int ridden(String[] ride, String holes, int tooMuch) {
        Script script = Script.of(ride);
        int hole = script.make("count 3");
        int much = 0;
        for (int i = 0; i < holes.length(); i++) {
            int next = holes.charAt(i) - '0';
            if (Math.abs(next - hole) > 1) {
                return tooMuch;
            }
            script.make("pull " + next);
            hole = next;
            much += script.make("mile");
        }
        return much;
    }

    private static void comes() {
        Edges.nothing("21: NONE without a TRAIN", WITHOUT_TRAIN, NONE, "comes -1 1 0", "comes 0 1 0", "comes 1 60 2");
        Edges.nothing("21: a RULE or NONE", Edges.RICH, NONE, "comes -2 1 0", "comes 2 1 0", "comes 6 1 0", "comes " + LEAST + " 1 0",
            "comes " + MOST + " 1 0");
        Edges.nothing("21: n 1 to 60", Edges.RICH, NONE, "comes 0 0 0", "comes 0 -1 0", "comes 0 61 0", "comes -1 0 0", "comes -1 61 0",
            "comes 0 " + LEAST + " 0", "comes 0 " + MOST + " 0");
        Edges.nothing("21: what 0 to 2", Edges.RICH, NONE, "comes 0 1 -1", "comes 0 1 3", "comes 0 1 " + LEAST, "comes 0 1 " + MOST);
        for (int miles : new int[] {1, 59, 60}) {
            Edges.nothing("21: n above the MILES left", left(miles), NONE, "comes 0 " + (miles + 1) + " 0", "comes -1 " + (miles + 1) + " 2");
            Window.due("21: n the MILES left", Script.of(left(miles)).make("comes 0 " + miles + " 0") > 0 ? 1 : 0, 1);
        }
        Edges.nothing("21: at the end", Edges.OVER, NONE, "comes 0 1 0", "comes -1 1 0", "comes -1 0 0");
        Edges.due("21: nobody", Edges.on("train 20 0 0"), "comes -1 60 0", 0, "comes -1 60 1", 0, "comes -1 60 2", 0);
        // HOLE 2 suits PERSON 0, in 1 MILE 1 SUFFERS 9 by warmth; by NONE HOLE 0: 64, 64 + 1
        String[] ride = Edges.on("train 20 0 0;person 0 0 2 20 8;person 7 0 9 23 0", "rule: pull 2", "force 0");
        Edges.due("21: of a RULE, or NONE", ride, "comes 0 1 0", 9, "comes 0 1 1", 9, "comes 0 1 2", 1, "comes -1 1 0", 64 + 9, "comes -1 1 1", 64,
            "comes -1 1 2", 1);
        // WARMTH 20, then 17; PERSON 0 is OUT by then
        Edges.due("21: CROSSNESS of those aboard then", Edges.on("train 20 0 0;person 3 0 2 20 0;person 6 0 9 20 2", "rule: pull 2"), "comes 0 1 2", 1,
            "comes 0 2 2", 0, "comes 0 1 0", 4, "comes 0 2 0", 4 + 4 + 9 + 9, "comes 0 2 1", 4 + 4 + 9);
        Edges.due("21: in these, not what was ahead", Edges.then(ride, "mile"), "comes 0 1 0", 9 + 36, "comes 0 1 1", 36);
        Edges.due("21: CROSSNESS goes on", Edges.miles(Edges.on("train 20 0 0;person 3 0 240 20 5"), 7), "comes -1 1 2", 8, "comes -1 60 2", 67);
    }

    private static void gains() {
        Edges.nothing("22: -100 without a TRAIN", WITHOUT_TRAIN, -100, "gains 0 0 1 0", "gains 0 0 1 1");
        Edges.nothing("22: a PERSON", Edges.RICH, -100, "gains -1 0 1 0", "gains 5 0 1 0", "gains 8 0 1 0", "gains " + LEAST + " 0 1 0",
            "gains " + MOST + " 0 1 0");
        Edges.nothing("22: a RULE", Edges.RICH, -100, "gains 0 -1 1 0", "gains 0 2 1 0", "gains 0 6 1 0", "gains 0 -2 1 0", "gains 0 " + MOST + " 1 0",
            "gains 0 " + LEAST + " 1 1");
        Edges.nothing("22: n 1 to 60", Edges.RICH, -100, "gains 0 0 0 0", "gains 0 0 -1 0", "gains 0 0 61 0", "gains 0 0 " + LEAST + " 0",
            "gains 0 0 " + MOST + " 0");
        Edges.nothing("22: what 0 or 1", Edges.RICH, -100, "gains 0 0 1 -1", "gains 0 0 1 2", "gains 0 0 1 " + LEAST, "gains 0 0 1 " + MOST);
        for (int miles : new int[] {1, 59, 60}) {
            Edges.nothing("22: n above the MILES left", left(miles), -100, "gains 0 1 " + (miles + 1) + " 0", "gains 0 1 " + (miles + 1) + " 1");
            Window.due("22: n the MILES left", Script.of(left(miles)).make("gains 0 0 " + miles + " 1"), 0);
        }
        Edges.nothing("22: at the end", Edges.OVER, -100, "gains 0 0 1 0", "gains 0 0 0 0");
        Edges.nothing("22: without RULES", Edges.on("train 9 0 0;person 0 0 9 9 9"), -100, "gains 0 0 1 0", "gains 0 -1 1 0");
    }

    private static void gain(String sentence, String person, String rule, int lie, int much) {
        Edges.due(sentence, Edges.on("train 20 0 0;person 0 0 240 20 " + person, "rule: " + rule), "gains 0 0 1 0", lie, "gains 0 0 1 1", much);
    }

    private static void gainsOfSeveral() {
        gain("of all the nearest to 0", "8", "pull 1", 0, 0);
        gain("of all the nearest to 0, whatever they say", "8;says 0 18", "pull 1", 0, 0);
        // wants 0 by AIR 2 at most
        gain("the LIE -9", "11", "pull 3 if window=0;pull 0", -9, 121 - 1);
        gain("the nearest to 0 below", "9", "pull 2 if window=0;pull 0", -7, 81 - 1);
        // wants 5 from AIR 19 on
        gain("the LIE 9", "10", "pull 2 if window=5;pull 0", 9, 100 - 4);
        gain("the nearest to 0 above", "12", "pull 3 if window=5;pull 0", 7, 144);
        gain("less than by the LIE they have: none", "10;says 0 18", "pull 2 if window=5;pull 0", 9, 0);
        gain("less than by the LIE they have: -9", "11;says 0 0", "pull 3 if window=0;pull 0", -9, 0);
        gain("less than by the LIE they have", "11;says 0 1", "pull 3 if window=0;pull 0", -9, 120);
        // wants 2 by AIR 7 to 10: of -2 (6) and 3 (11) the nearer one
        gain("nearer below", "8", "pull 5 if window=2;pull 2", -2, 144);
        // wants 2 by AIR 7 to 10: of -3 (6) and 2 (11)
        gain("nearer above", "9", "pull 5 if window=2;pull 2", 2, 121 - 1);
        // wants 1 by AIR 3 to 6
        gain("the LIE 1", "2", "pull 1 if window=1;pull 5", 1, 324 - 4);
        gain("the LIE -1", "3", "pull 1 if window=0;pull 5", -1, 289 - 1);
        Edges.due("of -1 and 1 the lesser", Edges.on("train 20 0 0;hole 2;person 3 0 9 20 2", "rule: pull 2 if more+less=1;pull 5"), "gains 0 0 1 0", -1,
            "gains 0 0 1 1", 9);
        Edges.due("of these the lesser", Edges.on("train 20 0 0;hole 2;person 1 0 9 20 6", "rule: pull 2 if less+more=1;pull 5"), "gains 0 0 1 0", -2,
            "gains 0 0 1 1", 81);
        Edges.due("others as they are", Edges.on("train 20 0 0;person 0 0 9 20 8;person 3 0 9 20 0;says 0 18", "rule: pull window"), "gains 0 0 1 0", 0,
            "gains 0 0 1 1", 64, "gains 1 0 1 0", 0, "gains 1 0 1 1", 0);
        Edges.due("not the RULE IN FORCE", Edges.on("train 20 0 0;person 0 0 9 20 8;says 0 18", "rule: pull window", "rule: pull 1", "force 1"),
            "gains 0 0 1 1", 64, "gains 0 1 1 1", 0);
        Edges.due("not aboard in these", Edges.on("train 20 0 0;person 0 5 9 20 8;says 0 18", "rule: pull window"), "gains 0 0 5 0", 0,
            "gains 0 0 5 1", 0, "gains 0 0 6 1", 64);
    }

    private static void rests() {
        Edges.nothing("23: -200 without a TRAIN", WITHOUT_TRAIN, -200, "rests 0 1 0", "rests 0 1 3");
        Edges.nothing("23: a RULE", Edges.RICH, -200, "rests -1 1 0", "rests 2 1 0", "rests 6 1 0", "rests -2 1 0", "rests " + MOST + " 1 0",
            "rests " + LEAST + " 1 0");
        Edges.nothing("23: n 1 to 12", Edges.RICH, -200, "rests 0 0 0", "rests 0 -1 0", "rests 0 13 0", "rests 0 " + LEAST + " 0",
            "rests 0 " + MOST + " 0");
        Edges.nothing("23: what 0 to 3", Edges.RICH, -200, "rests 0 1 -1", "rests 0 1 4", "rests 0 1 " + LEAST, "rests 0 1 " + MOST);
        for (int miles : new int[] {1, 11, 12}) {
            Edges.nothing("23: n above the MILES left", left(miles), -200, "rests 0 " + (miles + 1) + " 0", "rests 0 " + (miles + 1) + " 3");
            Edges.due("23: n the MILES left", left(miles), "rests 0 " + miles + " 0", 27, "rests 0 " + miles + " 3", -4);
        }
        Edges.nothing("23: at the end", Edges.OVER, -200, "rests 0 1 0", "rests 0 0 0");
        Edges.nothing("23: without RULES", Edges.on("train 9 0 0;person 0 0 9 9 9"), -200, "rests 0 1 0", "rests -1 1 0");
    }

    private static void restsOfFewer() {
        String train = "train 20 0 0";
        int[] rows = {1, 3, 9, 27, 27, 27};
        for (int people = 0; people <= 5; people++) {
            String[] ride = Edges.on(train, "rule: pull 1");
            Edges.due(people + " PEOPLE, all rows", ride, "rests 0 12 0", rows[people]);
            for (int what = 1; what <= 3; what++) {
                Edges.nothing(people + " PEOPLE, the first row, or not so many", ride, what <= people ? -4 : -100, "rests 0 12 " + what);
            }
            train += ";person " + people + " 0 240 20 9";
        }
        // alone by the window: AIR 8, wants 1, 2, 3 by LIES -4, 0, 4
        String[] one = Edges.on("train 20 0 0;person 0 0 9 20 8;says 0 18", "rule: pull window", "rule: pull 3-window", "rule: pull window-1");
        Edges.due("the row 0", one, "rests 0 1 0", 1, "rests 0 1 1", 0);
        Edges.due("the row -4", one, "rests 1 1 0", 1, "rests 1 1 1", -4);
        Edges.due("the row 4", one, "rests 2 1 0", 1, "rests 2 1 1", 4);
        Edges.due("there is none", Edges.on("train 20 0 0;hole 3;person 0 0 9 20 0;person 1 0 9 20 12", "rule: pull 0 if window=more;pull 4"),
            "rests 0 1 0", 0, "rests 0 1 1", -100, "rests 0 1 2", -100, "rests 0 1 3", -100);
        // each alone by the window for a MILE, with AIR 8: by HOLE 2 they SUFFER least
        Edges.due("the row 0 4 -4", Edges.on("train 20 0 0;person 0 0 1 20 8;person 0 1 2 20 8;person 0 2 3 20 8",
            "rule: pull window-1 if mile=1;pull window+1 if mile=2;pull window"), "rests 0 3 0", 1, "rests 0 3 1", 0, "rests 0 3 2", 4, "rests 0 3 3", -4,
            "rests 0 2 0", 3, "rests 0 2 3", -4, "rests 0 1 0", 9, "rests 0 1 2", -4);
        Edges.due("the fourth says what they say", Edges.on("train 20 0 0;person 3 0 9 20 0;person 6 0 9 20 0;person 7 0 9 20 0;person 0 0 9 20 8;"
            + "says 3 18", "rule: pull window"), "rests 0 1 0", 27, "say 3 0", 9, "rests 0 1 0", 27);
    }

    private static void swing() {
        Edges.nothing("24: NONE without a TRAIN", WITHOUT_TRAIN, NONE, "swing 0", "swing 30", "swing 60");
        for (String[] given : new String[][] {Edges.NEW, Edges.RICH, Edges.OVER}) {
            Edges.nothing("24: WARMTH 0 to 60", given, NONE, "swing -1", "swing 61", "swing " + LEAST, "swing " + MOST);
        }
        Edges.due("24: held at 0 and at 60 it settles", Edges.on("train 30 1 0"), "swing 0", 0, "swing 60", 0);
        // by KNOB 3 5 more, by 0 1 less: 19, 24, 23, .. 20, 19
        Edges.due("24: to 3 below it, to 0 above it, not at it", Edges.on("train 20 0 0"), "swing 20", 5, "turn 3", 0, "swing 20", 5);
        // for 21 by KNOB 3 2 more, by 0 4 less: 22, 18, 20, 22
        Edges.due("24: not at it", Edges.on("train 20 2 0;hole 3"), "swing 20", 0, "swing 21", 4);
        Edges.due("24: not at it, KNOB as it was turned", Edges.on("train 20 1 0;hole 3", "turn 2"), "swing 20", 0);
        // 19 by the KNOB told, 24, 29 by 3, then by 0 down to 20, 19, to 3 but 18, 23, to 0 but 28, 27 ..
        Edges.due("24: LAG", Edges.on("train 20 0 1", "turn 3"), "swing 20", 28 - 18);
        Edges.due("24: by HOLE 5 KNOB 3 makes no more", Edges.on("train 20 0 0;hole 5"), "swing 20", 0, "swing 21", 0, "swing 60", 0);
        Edges.due("24: no COLDS", Edges.on("train 20 0 0;cold 0 239 4;cold 0 239 4"), "swing 20", 5);
        Edges.due("24: HOLE as it is", Edges.on("train 20 0 0", "rule: pull 5", "force 0"), "swing 20", 5);
        Edges.due("24: MILES without end", Edges.on("train 60 0 0"), "swing 20", 5);
        Edges.due("24: at MILE 240", Edges.OVER, "swing 0", 0, "count 0", 0);
        // by KNOB 1 it is at 60 by then; to 20 it is farther than any MILE left
        Edges.due("24: at MILE 240", Edges.miles(Edges.on("train 20 1 0"), 240), "count 0", 60, "swing 20", 5);
    }

    // Whoever looks turns the knob ahead of each mile: by real calls, as far as the train goes.
    private static void swingsByHand() {
        for (int lag = 0; lag <= 6; lag++) {
            for (int hole = 0; hole <= 5; hole++) {
                for (int wished = 0; wished <= 60; wished += 15) {
                    String[] ride = Edges.on("train 33 1 " + lag + ";hole " + hole, "turn 2");
                    Window.due("24: LAG " + lag + ", HOLE " + hole + ", for " + wished, Script.of(ride).make("swing " + wished), swung(ride, wished));
                }
            }
        }
    }

    private static int swung(String[] ride, int wished) {
        Script script = Script.of(ride);
        int greatest = 0;
        int least = 60;
        for (int mile = 0; mile < 160; mile++) {
            int warmth = script.make("count 0");
            // a round is shorter than 80 MILES, and begins ahead of MILE 80
            greatest = mile < 80 ? 0 : Math.max(greatest, warmth);
            least = mile < 80 ? 60 : Math.min(least, warmth);
            if (warmth != wished) {
                script.make(warmth < wished ? "turn 3" : "turn 0");
            }
            script.make("mile");
        }
        return greatest - least;
    }

    private static void log() {
        Edges.nothing("25: -2 without a TRAIN", WITHOUT_TRAIN, -2, "log 0 0", "log 60 60");
        Edges.nothing("25: there are none", Edges.NEW, 0, "log -1 0");
        Edges.nothing("25: n 0 to 60, or NONE", Edges.RICH, -2, "log -2 0", "log 61 0", "log " + LEAST + " 0", "log " + MOST + " 0");
        Edges.nothing("25: WARMTH 0 to 60", Edges.RICH, -2, "log 0 -1", "log 0 61", "log 0 " + LEAST, "log 0 " + MOST);
        String[] ride = Edges.on("train 20 0 0");
        Edges.due("25: the least and the greatest", ride, "log 0 0", 1, "log 60 60", 2, "log 0 60", 3, "log 60 0", 4, "count 11", 4);
        for (int logs = 0; logs < 10; logs++) {
            Window.due("25: how many", Script.of(Edges.times(ride, logs, "log 0 20")).make("log 0 20"), logs + 1);
        }
        Edges.nothing("25: there are 10", Edges.times(ride, 10, "log 0 20"), -2, "log 0 20", "log 1 19", "log 61 0", "log 0 61");
        Edges.alike("25: there are none then", Edges.then(Edges.times(ride, 10, "log 3 20"), "log -1 0"), ride);
        Edges.due("25: there are none then, 0", Edges.times(ride, 10, "log 3 20"), "log -1 0", 0, "count 11", 0, "log 1 1", 1);
        Edges.nothing("25: there are none", ride, 0, "log -1 0", "log -1 60");
        Edges.due("25: at MILE 240", Edges.OVER, "log 0 30", 1, "ruled 0", 24);
    }

    private static void ruledIs(String sentence, String[] given, int many, int hole, int knob) {
        Edges.nothing(sentence, given, many, "ruled 0");
        Edges.nothing(sentence, given, hole, "ruled 1");
        Edges.nothing(sentence, given, knob, "ruled 2");
    }

    private static void ruled() {
        Edges.nothing("26: NONE without a TRAIN", WITHOUT_TRAIN, NONE, "ruled 0", "ruled 1", "ruled 2");
        for (String[] given : new String[][] {Edges.NEW, Edges.RICH, Edges.OVER}) {
            Edges.nothing("26: NONE for others", given, NONE, "ruled -1", "ruled 3", "ruled " + LEAST, "ruled " + MOST);
        }
        String[] ride = Edges.on("train 30 0 0");
        ruledIs("without LOGS all", ride, 24, 0, 0);
        // behind 1 MILE 29 + 2 * KNOB - HOLE
        ruledIs("the first", Edges.then(ride, "log 1 29"), 3, 0, 0);
        ruledIs("by HOLES, then KNOBS", Edges.then(ride, "log 1 30"), 3, 1, 1);
        ruledIs("HOLE 5", Edges.then(ride, "log 1 24"), 1, 5, 0);
        ruledIs("KNOB 3", Edges.then(ride, "log 1 35"), 1, 0, 3);
        ruledIs("none", Edges.then(ride, "log 1 36"), 0, -2, -2);
        ruledIs("none", Edges.then(ride, "log 1 23"), 0, -2, -2);
        ruledIs("behind 0 MILES", Edges.then(ride, "log 0 30"), 24, 0, 0);
        ruledIs("behind 0 MILES", Edges.then(ride, "log 0 31"), 0, -2, -2);
        ruledIs("all LOGS", Edges.then(ride, "log 1 29", "log 2 28", "log 0 30"), 3, 0, 0);
        ruledIs("all LOGS, the last too", Edges.then(Edges.times(ride, 9, "log 1 29"), "log 1 30"), 0, -2, -2);
        // 2 * KNOB - HOLE - 1 above 0: all held at 60 from MILE 30 on; (0, 3) (0, 2) (0, 1) (1, 3) (1, 2) (2, 3) (2, 2) (3, 3) (4, 3)
        ruledIs("held at 60", Edges.then(ride, "log 60 60"), 9, 0, 1);
        ruledIs("held at 0", Edges.then(ride, "log 60 0"), 12, 0, 0);
        ruledIs("stays", Edges.then(ride, "log 60 30"), 3, 1, 1);
        // LAG 6: KNOB 1 as told for 6 MILES; 30 + 6 * (1 - HOLE), then 2 * KNOB - HOLE - 1
        String[] late = Edges.on("train 30 1 6");
        ruledIs("as told for 6 MILES", Edges.then(late, "log 6 30"), 4, 1, 0);
        ruledIs("from MILE 0 on, a LAG later", Edges.then(late, "log 6 30", "log 7 34"), 1, 1, 3);
        ruledIs("COLDS as told", Edges.then(Edges.on("train 30 0 0;cold 0 0 4;cold 1 9 1"), "log 1 25"), 3, 0, 0);
        ruledIs("COLDS as told", Edges.then(Edges.on("train 30 0 0;cold 59 59 4"), "log 60 57", "log 59 60"), 3, 0, 1);
        ruledIs("from the begin, whatever was done", Edges.then(Edges.on("train 30 0 0;hole 4"), "turn 3", "pull 5", "mile", "mile", "log 1 29"), 3, 0, 0);
    }

    private static void look() {
        Edges.nothing("27: -3 without a TRAIN", WITHOUT_TRAIN, -3, "look -1", "look 0", "look 60");
        for (String[] given : new String[][] {Edges.NEW, Edges.RICH, Edges.OVER}) {
            Edges.nothing("27: n 0 to 60, or NONE", given, -3, "look -2", "look 61", "look " + LEAST, "look " + MOST);
        }
        String[] ride = Edges.on("train 30 0 0");
        Edges.nothing("27: all alike at 0", ride, 24, "look 0");
        // 2 * KNOB - HOLE goes from -5 to 6: three alike at most
        Edges.nothing("27: behind 1 MILE", ride, 3, "look 1");
        Edges.nothing("27: behind 60 MILES", ride, 12, "look 60");
        Edges.nothing("27: of several the least n", ride, 1, "look -1");
        Edges.nothing("27: one alone", Edges.then(ride, "log 1 24"), 1, "look 0", "look 1", "look 60");
        Edges.nothing("27: one alone", Edges.then(ride, "log 1 24"), 0, "look -1");
        String[] none = Edges.then(ride, "log 1 36");
        Edges.nothing("27: none is RULED so", none, -2, "look 0", "look 1", "look 60", "look -1");
        Edges.nothing("27: -3 ahead of -2", none, -3, "look 61", "look -2");
        // three by which it goes as one to the end
        Edges.nothing("27: never parted", Edges.then(ride, "log 1 29"), 3, "look 0", "look 1", "look 29", "look 60");
        Edges.nothing("27: never parted: the least n", Edges.then(ride, "log 1 29"), 0, "look -1");
        String[] held = Edges.on("train 60 0 0;cold 59 59 4", "log 59 60");
        Edges.nothing("27: behind 60 MILES alone", held, 60, "look -1");
        Edges.nothing("27: behind 60 MILES alone", held, 12, "look 59");
        Edges.nothing("27: LAG", Edges.on("train 30 1 6"), 4, "look 6");
        Edges.nothing("27: LAG", Edges.on("train 30 1 6", "log 6 30"), 7, "look -1");
    }

    private static void journeys() {
        Edges.nothing("29: NONE without a TRAIN", WITHOUT_TRAIN, NONE, "journeys 1 1 0 0", "journeys 10 60 100 1");
        Edges.nothing("29: m 1 to 10", Edges.RICH, NONE, "journeys 0 1 0 0", "journeys 11 1 0 0", "journeys -1 1 0 0",
            "journeys " + LEAST + " 1 0 0", "journeys " + MOST + " 1 0 0");
        Edges.nothing("29: n 1 to 60", Edges.RICH, NONE, "journeys 1 0 0 0", "journeys 1 61 0 0", "journeys 1 -1 0 0",
            "journeys 1 " + LEAST + " 0 0", "journeys 1 " + MOST + " 0 0");
        Edges.nothing("29: p 0 to 100", Edges.RICH, NONE, "journeys 1 1 -1 0", "journeys 1 1 101 0", "journeys 1 1 " + LEAST + " 0",
            "journeys 1 1 " + MOST + " 0");
        Edges.nothing("29: what 0 or 1", Edges.RICH, NONE, "journeys 1 1 0 -1", "journeys 1 1 0 2", "journeys 1 1 0 " + LEAST,
            "journeys 1 1 0 " + MOST);
        for (int miles : new int[] {1, 59, 60}) {
            Edges.nothing("29: n above the MILES left", left(miles), NONE, "journeys 1 " + (miles + 1) + " 0 0", "journeys 10 " + (miles + 1) + " 9 1");
            Window.due("29: n the MILES left", Script.of(left(miles)).make("journeys 10 " + miles + " 100 0") > 0 ? 1 : 0, 1);
            Edges.due("29: nobody is aboard at the end", left(miles), "journeys 10 " + miles + " 100 1", 0);
        }
        Edges.nothing("29: at the end", Edges.OVER, NONE, "journeys 1 1 0 0", "journeys 1 0 0 0");
        Edges.due("29: nobody", Edges.on("train 20 0 0"), "journeys 10 60 100 0", 0, "journeys 10 60 100 1", 0);
        String[] ride = Edges.on("train 20 0 0;person 0 0 240 20 8");
        Edges.due("29: p 0: nobody PULLS", ride, "journeys 1 1 0 0", 64, "journeys 10 1 0 0", 640, "journeys 10 1 0 1", 10);
        Edges.due("29: p 100: somebody always does", ride, "journeys 1 1 100 0", 0, "journeys 10 1 100 0", 0, "journeys 10 1 100 1", 0);
    }

    private static void draws() {
        // x 0 becomes 12345: the DRAW is 0, below 1 but not below 0; the next one is 21468
        String[] ride = Edges.on("train 20 0 0;person 0 0 240 20 8;person 1 0 240 20 3");
        Edges.due("a DRAW of 0", ride, "journeys 1 1 0 0", 64 + 9, "journeys 1 1 1 0", 0 + 9);
        // x 2147483647 becomes 1043980748: 15929, mod 100 29
        String[] most = Edges.on("train 20 0 0;person 0 0 240 20 8", "seed " + MOST);
        Edges.due("from the greatest x", most, "journeys 1 1 29 0", 64, "journeys 1 1 30 0", 0, "count 13", MOST);
        // nobody aboard in MILE 0: a DRAW, 0; then 21468, mod 100 68
        String[] later = Edges.on("train 20 0 0;person 0 1 240 20 8");
        Edges.due("if anybody is aboard", later, "journeys 1 2 68 0", 1 + 64, "journeys 1 2 69 0", 1 + 0);
        // wants 1, 2, 3: by HOLE 1 26 together, by 2 10, by 3 6; the second DRAW from 0, 1, 2 is 21468, 5758, 22817
        String[] three = Edges.on("train 20 0 0;person 3 0 240 20 1;person 6 0 240 20 2;person 2 0 240 20 7");
        String[] four = Edges.on("train 20 0 0;person 0 5 240 20 20;person 3 0 240 20 1;person 6 0 240 20 2;person 2 0 240 20 7");
        int[] due = {26, 10, 6};
        for (int x = 0; x < 3; x++) {
            Edges.due("a DRAW mod how many", Edges.then(three, "seed " + x), "journeys 1 1 100 0", due[x], "journeys 1 1 100 1", 2);
            Edges.due("that one of them, by numbers", Edges.then(four, "seed " + x), "journeys 1 1 100 0", due[x], "journeys 1 1 100 1", 2);
        }
        // 9988 mod 100 is 88, then 22117 mod 3 is 1; nobody PULLS: 1 + 4 + 49
        Edges.due("from one to the next x goes on", three, "journeys 2 1 100 0", 26 + 10, "journeys 2 1 88 0", 26 + 54, "journeys 2 1 89 0", 26 + 10,
            "journeys 2 1 100 1", 4);
        Edges.nothing("x as it was", Edges.on("train 20 0 0;person 0 0 240 20 8", "seed 9"), 0, "journeys 10 1 100 0");
    }
}
