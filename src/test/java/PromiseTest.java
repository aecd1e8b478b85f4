/** Each promise of the document, with answers reckoned by hand. */
public final class PromiseTest {
    private static final int NONE = StrapWindow.NONE;
    private static final String TWO = "train 20 1 2;hole 2;person 0 0 240 20 8;person 5 0 3 22 4;front 0;says 1 11;"
        + "tunnel 1 2;tunnel 2 4;cold 0 1 1;cold 1 1 2";

    public static void main(String[] args) {
        newObject();
        feed();
        end();
        train();
        rule();
        force();
        person();
        air();
        seat();
        stretch();
        mile();
        gettingIn();
        pull();
        turn();
        seats();
        say();
        undo();
        ahead();
        which();
        sit();
        plan();
        comes();
        gains();
        rests();
        swing();
        log();
        ruled();
        look();
        seed();
        journeys();
        count();
        image();
        back();
        withoutTrain();
        Window.close();
    }

    private static void due(String call, long got, long want) {
        Window.due(call, got, want);
    }

    private static void refused(StrapWindow w, String call, long got, long want, String before) {
        Window.due(call, got, want);
        Window.same(call, Window.sight(w), before);
    }

    private static void newObject() {
        StrapWindow w = new StrapWindow();
        for (int what = 0; what <= 14; what++) {
            due("count(" + what + ")", w.count(what), what == 9 ? NONE : 0);
        }
        due("NONE", StrapWindow.NONE, -1);
        due("force(0)", w.force(0), -2);
        due("undo()", w.undo(), -2);
        due("back(0)", w.back(0), NONE);
    }

    private static void feed() {
        StrapWindow w = new StrapWindow();
        for (int i = 1; i <= 20; i++) {
            due("feed " + i, w.feed(i, 0, -1, Integer.MIN_VALUE, Integer.MAX_VALUE), 20 * i);
        }
        due("feed to 420", w.feed(0, 0, 0, 0, 0), NONE);
        due("count(14)", w.count(14), 400);
        w.end(381);
        due("feed to 401", w.feed(0, 0, 0, 0, 0), NONE);
        due("count(14)", w.count(14), 381);
        w.end(380);
        due("feed to 400", w.feed(0, 0, 0, 0, 0), 400);
        w.end(0);
        // "train 12 3 4", each number's highest byte first
        w.feed(0x74726169, 0x6e203132, 0x20332034, 0x20202020, 0x20202020);
        due("train()", w.train(), 0);
        due("WARMTH", w.count(0), 12);
        due("LAG", w.count(2), 4);
        // the bytes behind end are gone: a new text comes behind what is left
        w.feed(0x74726169, 0x6e203132, 0x20332034, 0, 0);
        w.end(7);
        w.feed(0x20302030, 0, 0, 0, 0);
        w.end(11);
        due("train 1 0 0", w.train(), 0);
        due("WARMTH", w.count(0), 1);
        w.feed(0x80ffffff, -1, -1, -1, -1);
        due("high bytes", w.train(), Window.fault(0, 0));
    }

    private static void end() {
        StrapWindow w = new StrapWindow();
        due("end(0)", w.end(0), 0);
        due("end(1)", w.end(1), NONE);
        w.feed(0, 0, 0, 0, 0);
        due("end(21)", w.end(21), NONE);
        due("end(-1)", w.end(-1), NONE);
        due("end least", w.end(Integer.MIN_VALUE), NONE);
        due("count(14)", w.count(14), 20);
        due("end(20)", w.end(20), 20);
        due("end(7)", w.end(7), 7);
        due("count(14)", w.count(14), 7);
        due("end(8)", w.end(8), NONE);
    }

    private static void train() {
        StrapWindow w = Window.on(TWO, "pull 1");
        w.force(0);
        w.seed(7);
        w.log(0, 20);
        w.pull(4);
        w.mile();
        Window.tape(w, "train 20 9 9");
        String before = Window.sight(w);
        due("a train with a fault", w.train(), Window.fault(9, 1));
        due("count(14)", w.count(14), 0);
        Window.tape(w, "train 20 9 9");
        Window.same("a train with a fault", Window.sight(w), before);
        due("another train", Window.train(w, "train 33 2 5;hole 3;person 7 0 1 0 0"), 1);
        due("count(14)", w.count(14), 0);
        due("WARMTH", w.count(0), 33);
        due("KNOB", w.count(1), 2);
        due("LAG", w.count(2), 5);
        due("HOLE", w.count(3), 3);
        due("RULE IN FORCE", w.count(9), 0);
        due("MILE", w.count(10), 0);
        due("LOGS", w.count(11), 0);
        due("UNDONE", w.count(12), 0);
        due("x", w.count(13), 7);
        due("undo()", w.undo(), -2);
        due("nobody has suffered", w.person(0, 5), 0);
        due("without a hole", Window.train(w, "train 0 0 0"), 0);
        due("HOLE", w.count(3), 0);
    }

    private static void rule() {
        StrapWindow w = Window.on("train 0 0 0");
        due("a fault", Window.rule(w, "pull"), Window.fault(4, 0));
        due("count(14)", w.count(14), 0);
        due("count(8)", w.count(8), 0);
        for (int i = 0; i < 6; i++) {
            due("rule " + i, Window.rule(w, "pull " + i), i);
            due("count(14)", w.count(14), 0);
        }
        Window.tape(w, "pull 1");
        due("a seventh", w.rule(), NONE);
        due("count(14)", w.count(14), 6);
        due("count(8)", w.count(8), 6);
        Window.tape(w, "pill 1");
        due("a seventh with a fault", w.rule(), NONE);
        due("count(14)", w.count(14), 6);
        for (int i = 0; i < 6; i++) {
            w.force(i);
            due("ahead by rule " + i, w.ahead(1, 0), i);
        }
    }

    private static void force() {
        StrapWindow w = Window.on("train 0 0 0", "pull 3", "pull 4");
        due("force(1)", w.force(1), NONE);
        due("force(0)", w.force(0), 1);
        due("force(2)", w.force(2), -2);
        due("force(-2)", w.force(-2), -2);
        due("count(9)", w.count(9), 0);
        due("force(0)", w.force(0), 0);
        due("force(NONE)", w.force(NONE), 0);
        due("count(9)", w.count(9), NONE);
        due("no ACT", w.count(12), 0);
    }

    private static void person() {
        StrapWindow w = Window.on(TWO);
        int[] first = {0, 1, 2, 0, 0, 0, 0, 20, 8, 1};
        int[] second = {5, 1, 3, 4, 0, 0, 2, 22, 4, 0};
        for (int what = 0; what <= 9; what++) {
            due("person(0, " + what + ")", w.person(0, what), first[what]);
            due("person(1, " + what + ")", w.person(1, what), second[what]);
        }
        for (int what : new int[] {-1, 10, Integer.MIN_VALUE, Integer.MAX_VALUE}) {
            due("person(0, " + what + ")", w.person(0, what), -100);
        }
        for (int person : new int[] {-1, 2, 7, 8, Integer.MIN_VALUE, Integer.MAX_VALUE}) {
            due("person(" + person + ", 0)", w.person(person, 0), -100);
        }
        due("mile", w.mile(), 4);
        // MILE 1, a tunnel: WARMTH 20 + 2 - 2 - 1 - 1
        due("suffers in a tunnel", w.person(0, 3), 4 + 0 + 18);
        due("suffers in a tunnel", w.person(1, 3), 16 + 0 + 18);
        due("cross", w.person(1, 4), 1);
        due("cross", w.person(0, 4), 0);
        due("suffered", w.person(1, 5), 4);
        w.mile();
        w.mile();
        int[] out = {NONE, 0, NONE, 0, 3};
        for (int what = 0; what <= 4; what++) {
            due("out: person(1, " + what + ")", w.person(1, what), out[what]);
        }
        wants();
    }

    // Of two HOLES as near the least; a wish below or above all that a SEAT can have; who stands.
    private static void wants() {
        StrapWindow w = Window.on("train 20 0 0;person 0 0 9 20 2;person 1 0 9 20 20;person 2 0 9 20 3;person 3 0 9 20 0;"
            + "person 4 0 9 20 5;person 5 0 9 20 20;person 6 0 9 20 3;person 7 0 9 20 20;says 3 0;says 5 18");
        int[] wants = {0, 5, 1, 0, 2, 5, 3, 0};
        for (int p = 0; p < 8; p++) {
            due("want of " + p, w.person(p, 2), wants[p]);
        }
        w = Window.on("train 20 0 0;person 0 0 9 20 20;person 0 0 9 20 20;person 0 0 9 20 20;person 0 0 9 20 20;"
            + "person 0 0 9 20 20;front 0;front 1;front 2;front 3;front 4");
        due("stands", w.person(4, 0), NONE);
        due("stands, aboard", w.person(4, 1), 1);
        due("stands, wants", w.person(4, 2), 0);
        w.pull(5);
        due("stands, suffers", w.person(4, 3), 400);
        due("sits, suffers", w.person(0, 3), 0);
    }

    private static void air() {
        StrapWindow w = new StrapWindow();
        int[] times = {4, 3, 2, 1, 3, 2, 1, 0};
        for (int seat = 0; seat < 8; seat++) {
            for (int hole = 0; hole < 6; hole++) {
                due("air(" + seat + ", " + hole + ")", w.air(seat, hole), times[seat] * hole);
            }
        }
        int[][] wrong = {{-1, 0}, {8, 0}, {0, -1}, {0, 6}, {Integer.MIN_VALUE, 0}, {0, Integer.MAX_VALUE}};
        for (int[] a : wrong) {
            due("air(" + a[0] + ", " + a[1] + ")", w.air(a[0], a[1]), NONE);
        }
    }

    private static void seat() {
        StrapWindow w = Window.on(TWO);
        due("seat(0)", w.seat(0), 0);
        due("seat(5)", w.seat(5), 1);
        due("seat(7)", w.seat(7), NONE);
        due("seat(-1)", w.seat(-1), -2);
        due("seat(8)", w.seat(8), -2);
    }

    private static void stretch() {
        StrapWindow w = Window.on(TWO + ";tunnel 239 239;cold 239 239 4");
        int[] tunnel = {0, 1, 1, 1, 1, 0};
        int[] cold = {1, 3, 0, 0, 0, 0};
        for (int mile = 0; mile < 6; mile++) {
            due("tunnel at " + mile, w.stretch(mile, 0), tunnel[mile]);
            due("cold at " + mile, w.stretch(mile, 1), cold[mile]);
        }
        due("tunnel at 239", w.stretch(239, 0), 1);
        due("cold at 239", w.stretch(239, 1), 4);
        due("stretch(240, 0)", w.stretch(240, 0), NONE);
        due("stretch(-1, 0)", w.stretch(-1, 0), NONE);
        due("stretch(0, 2)", w.stretch(0, 2), NONE);
        due("stretch(0, -1)", w.stretch(0, -1), NONE);
    }

    private static void mile() {
        StrapWindow w = Window.on(TWO);
        due("MILE 0", w.mile(), 0 + 4);
        due("WARMTH", w.count(0), 18);
        due("MILE 1", w.mile(), 22 + 34);
        due("WARMTH", w.count(0), 14);
        due("MILE 2", w.mile(), 36 + 18 + 64 + 18);
        due("those aboard", w.count(5), 1);
        due("WARMTH", w.count(0), 13);
        due("suffered", w.person(0, 5), 0 + 22 + 54);
        for (int mile = 3; mile < 239; mile++) {
            w.mile();
        }
        due("WARMTH 0 at least", w.count(0), 0);
        due("MILE 239", w.mile(), 400);
        due("MILE", w.count(10), 240);
        due("nobody is aboard at the end", w.count(5), 0);
        String before = Window.sight(w);
        refused(w, "MILE 240", w.mile(), NONE, before);
        w = Window.on("train 55 3 0");
        w.mile();
        w.mile();
        due("WARMTH 60 at most", w.count(0), 60);
        lawfulMile();
        crossness();
    }

    private static void lawfulMile() {
        StrapWindow w = Window.on("train 20 0 0;person 0 0 9 20 12", "pull 1+2 if mile=1;pull 0-9 if mile=2;pull 9 if mile=3");
        w.force(0);
        int[] suffered = {144, 1 + 0, 25 + 144, 36 + 64};
        int[] holes = {0, 3, 0, 5};
        for (int i = 0; i < 4; i++) {
            due("by law, MILE " + i, w.mile(), suffered[i]);
            due("HOLE", w.count(3), holes[i]);
        }
        w.mile();
        due("the HOLE stays without a CLAUSE that holds", w.count(3), 5);
    }

    private static void crossness() {
        StrapWindow w = Window.on("train 20 0 0;person 0 0 9 20 8");
        w.mile();
        w.mile();
        due("2 CROSS", w.person(0, 4), 2);
        w.pull(2);
        w.mile();
        due("1 CROSS", w.person(0, 4), 1);
        w.mile();
        w.mile();
        due("0 at least", w.person(0, 4), 0);
    }

    // Their SEAT, else the least free one they take, else they stand; OUT ahead of IN; IN by numbers.
    private static void gettingIn() {
        StrapWindow w = Window.on("train 20 0 0;person 3 0 2 20 0;person 3 0 9 20 0;person 6 0 9 20 0;person 3 2 9 20 0;"
            + "person 3 2 9 20 0;front 2;front 4");
        int[] seats = {3, 0, 1, NONE, NONE};
        for (int p = 0; p < 5; p++) {
            due("SEAT of " + p, w.person(p, 0), seats[p]);
        }
        w.mile();
        w.mile();
        int[] then = {NONE, 0, 1, 3, 2};
        for (int p = 0; p < 5; p++) {
            due("SEAT of " + p, w.person(p, 0), then[p]);
        }
        w = Window.on("train 20 0 0;person 0 0 3 20 0;person 1 0 9 20 0;person 2 0 9 20 0;person 3 0 9 20 0;"
            + "person 0 1 9 20 0;person 4 1 9 20 0;front 4");
        w.mile();
        due("who won't ride backwards stands", w.person(4, 0), NONE);
        due("SEAT of 5", w.person(5, 0), 4);
        w.mile();
        w.mile();
        due("a SEAT that gets free stays free", w.seat(0), NONE);
        due("who stands goes on standing", w.person(4, 0), NONE);
        due("a SEAT is given", w.seats(4, 1) ? 1 : 0, 1);
        due("a SEAT is given", w.person(4, 0), 1);
        due("who gave it stands", w.person(1, 0), NONE);
    }

    private static void pull() {
        StrapWindow w = Window.on("train 20 0 0;hole 2");
        String before = Window.sight(w);
        for (int hole : new int[] {2, -1, 6, Integer.MIN_VALUE, Integer.MAX_VALUE}) {
            refused(w, "pull(" + hole + ")", w.pull(hole), NONE, before);
        }
        due("pull(5)", w.pull(5), 2);
        due("pull(0)", w.pull(0), 5);
        due("count(3)", w.count(3), 0);
        due("count(12)", w.count(12), 2);
    }

    private static void turn() {
        StrapWindow w = Window.on("train 10 1 2");
        String before = Window.sight(w);
        for (int knob : new int[] {1, -1, 4, Integer.MIN_VALUE, Integer.MAX_VALUE}) {
            refused(w, "turn(" + knob + ")", w.turn(knob), NONE, before);
        }
        due("turn(0)", w.turn(0), 1);
        due("turn(3)", w.turn(3), 0);
        due("count(1)", w.count(1), 3);
        int[] warmths = {11, 12, 17, 22, 27, 26};
        for (int mile = 0; mile < 6; mile++) {
            if (mile == 3) {
                due("turn(0)", w.turn(0), 3);
            }
            w.mile();
            due("WARMTH behind MILE " + mile, w.count(0), warmths[mile]);
        }
        w = Window.on("train 10 0 0");
        w.turn(2);
        w.mile();
        due("LAG 0", w.count(0), 13);
        w = Window.on("train 10 0 6");
        w.turn(2);
        due("LAG 6", w.ahead(6, 1), 4);
        due("LAG 6", w.ahead(7, 1), 7);
    }

    private static void seats() {
        StrapWindow w = Window.on("train 20 0 0;person 0 0 9 20 0;person 1 0 9 20 0;person 2 0 9 20 0;person 3 0 9 20 0;"
            + "person 0 0 9 20 0;person 0 0 9 20 0;person 5 0 9 20 0;person 0 4 9 20 0;front 0;front 4;front 5");
        String before = Window.sight(w);
        int[][] wrong = {{0, 0}, {0, 7}, {7, 0}, {4, 5}, {0, 6}, {6, 0}, {-1, 0}, {0, 8}, {Integer.MIN_VALUE, 1},
            {4, 6}};
        for (int[] a : wrong) {
            refused(w, "seats(" + a[0] + ", " + a[1] + ")", w.seats(a[0], a[1]) ? 1 : 0, 0, before);
        }
        due("seats(1, 6)", w.seats(1, 6) ? 1 : 0, 1);
        due("SEAT of 1", w.person(1, 0), 5);
        due("SEAT of 6", w.person(6, 0), 1);
        due("seats(0, 6)", w.seats(0, 6) ? 1 : 0, 1);
        due("SEAT of 0", w.person(0, 0), 1);
        due("seats(0, 4)", w.seats(0, 4) ? 1 : 0, 1);
        due("SEAT of 4", w.person(4, 0), 1);
        due("SEAT of 0", w.person(0, 0), NONE);
        due("count(12)", w.count(12), 3);
    }

    private static void say() {
        StrapWindow w = Window.on("train 20 0 0;person 0 0 9 20 8;person 0 5 9 20 8;says 0 18;says 0 12");
        String before = Window.sight(w);
        int[][] wrong = {{0, 3}, {0, 10}, {0, -10}, {2, 0}, {-1, 0}, {1, 0}};
        for (int[] a : wrong) {
            refused(w, "say(" + a[0] + ", " + a[1] + ")", w.say(a[0], a[1]), -100, before);
        }
        due("say(0, -9)", w.say(0, -9), 3);
        due("say(0, 9)", w.say(0, 9), -9);
        due("say(1, 4), not aboard", w.say(1, 4), 0);
        due("LIE", w.person(1, 6), 4);
        due("want", w.person(0, 2), 4);
        due("count(12)", w.count(12), 3);
    }

    private static void undo() {
        StrapWindow w = Window.on(TWO, "pull 3");
        due("none can", w.undo(), -2);
        String[] sights = new String[6];
        sights[0] = Window.sight(w);
        w.mile();
        sights[1] = Window.sight(w);
        w.pull(5);
        sights[2] = Window.sight(w);
        w.turn(3);
        sights[3] = Window.sight(w);
        w.seats(0, 1);
        w.say(1, 0);
        sights[4] = Window.sight(w);
        w.mile();
        w.mile();
        due("undo()", w.undo(), 5);
        due("undo()", w.undo(), 4);
        Window.same("MILES undone", Window.sight(w), sights[4]);
        due("SAY undone", w.undo(), 3);
        Window.same("SAY undone", Window.sight(w), sights[3]);
        due("TURN undone", w.undo(), 2);
        Window.same("TURN undone", Window.sight(w), sights[2]);
        due("PULL undone", w.undo(), 1);
        Window.same("PULL undone", Window.sight(w), sights[1]);
        w.force(0);
        w.seed(9);
        w.log(0, 20);
        due("MILE undone", w.undo(), 0);
        due("no ACT stays", w.count(9), 0);
        due("no ACT stays", w.count(13), 9);
        due("no ACT stays", w.count(11), 1);
        w.force(NONE);
        w.seed(0);
        w.log(NONE, 0);
        Window.same("MILE undone", Window.sight(w), sights[0]);
        due("none can", w.undo(), -2);
        lastTwenty();
    }

    private static void lastTwenty() {
        StrapWindow w = Window.on("train 20 0 0");
        for (int i = 0; i < 25; i++) {
            w.mile();
            due("count(12)", w.count(12), Math.min(20, i + 1));
        }
        for (int i = 19; i >= 10; i--) {
            due("undo()", w.undo(), i);
        }
        due("MILE", w.count(10), 15);
        for (int i = 0; i < 4; i++) {
            w.mile();
        }
        for (int i = 13; i >= 0; i--) {
            due("undo()", w.undo(), i);
        }
        due("MILE", w.count(10), 5);
        due("undo()", w.undo(), -2);
    }

    private static void ahead() {
        StrapWindow w = Window.on(TWO);
        String before = Window.sight(w);
        int[] suffered = {0, 4, 60, 196};
        int[] warmths = {20, 18, 14, 13};
        for (int n = 0; n < 4; n++) {
            refused(w, "ahead(" + n + ", 2)", w.ahead(n, 2), suffered[n], before);
            due("ahead(" + n + ", 1)", w.ahead(n, 1), warmths[n]);
            due("ahead(" + n + ", 0)", w.ahead(n, 0), 2);
        }
        int[][] wrong = {{-1, 0}, {241, 0}, {0, 3}, {0, -1}, {Integer.MAX_VALUE, 0}};
        for (int[] a : wrong) {
            due("ahead(" + a[0] + ", " + a[1] + ")", w.ahead(a[0], a[1]), NONE);
        }
        due("ahead(240, 1)", w.ahead(240, 1), 0);
        w.mile();
        due("ahead(240, 1)", w.ahead(240, 1), NONE);
        due("so far", w.ahead(0, 2), 4);
        due("so far", w.ahead(1, 2), 60);
        StrapWindow lawful = Window.on("train 20 0 0", "pull mile");
        lawful.force(0);
        due("by the RULE", lawful.ahead(3, 0), 2);
        due("by the RULE", lawful.ahead(3, 1), 20 - 3 - 0 - 1 - 2);
    }

    private static void which() {
        StrapWindow w = Window.on("train 20 0 0;hole 5;person 0 0 9 20 8;person 2 0 9 20 10;person 3 0 9 24 0;person 1 4 9 0 0");
        // by HOLES 0 to 5: 64+100+16, 16+64+16+1, 0+36+16+4, 16+16+16+9, 64+4+16+16
        due("together", w.which(false, 0), 2);
        due("together", w.which(false, 1), 56);
        // the most: 100, 64, 36, 25, 64
        due("worst", w.which(true, 0), 3);
        due("worst", w.which(true, 1), 25);
        due("which(false, 2)", w.which(false, 2), NONE);
        due("which(true, -1)", w.which(true, -1), NONE);
        StrapWindow empty = Window.on("train 20 0 0;hole 5");
        due("nobody", empty.which(false, 0), 0);
        due("nobody", empty.which(true, 1), 0);
        StrapWindow tunnel = Window.on("train 20 0 0;tunnel 0 0;person 3 0 9 20 5");
        // 25, 16 + 9, 9 + 18, ..
        due("of several the least", tunnel.which(false, 0), 0);
        due("of several the least", tunnel.which(false, 1), 25);
    }

    private static void sit() {
        StrapWindow w = Window.on("train 20 0 0;hole 2;person 0 0 9 20 0;person 7 0 9 20 8;person 4 0 9 20 6;person 1 5 9 20 0");
        // by HOLE 2 AIR in SEATS 0, 4, 7 is 8, 6, 0: who wishes 0, 8, 6
        String before = Window.sight(w);
        int[] due = {0, 2, 7, 0, 4, NONE, NONE, NONE, NONE, NONE};
        for (int what = 0; what <= 9; what++) {
            refused(w, "sit(false, " + what + ")", w.sit(false, what), due[what], before);
        }
        w.pull(0);
        due("HOLE as it is", w.sit(false, 0), 100);
        due("HOLE as it is", w.sit(false, 1), 0);
        due("the first way", w.sit(false, 2), 0);
        due("the first way", w.sit(false, 3), 4);
        due("the first way", w.sit(false, 4), 7);
        for (int what = 0; what <= 9; what++) {
            due("sit(true, " + what + ")", w.sit(true, what), due[what]);
        }
        due("sit(true, 10)", w.sit(true, 10), NONE);
        due("sit(false, -1)", w.sit(false, -1), NONE);
        StrapWindow front = Window.on("train 20 0 0;hole 2;person 0 0 9 20 0;person 7 0 9 20 8;front 0");
        due("nobody who won't ride backwards", front.sit(false, 0), 64 + 64);
        due("nobody who won't ride backwards", front.sit(false, 2), 0);
        due("any HOLE", front.sit(true, 0), 64);
        due("the least HOLE", front.sit(true, 1), 0);
        StrapWindow empty = Window.on("train 20 0 0;hole 3");
        due("nobody sits", empty.sit(false, 0), 0);
        due("nobody sits", empty.sit(false, 1), 3);
        due("nobody sits", empty.sit(true, 1), 0);
        due("nobody sits", empty.sit(false, 2), NONE);
        sitWithWhoStands();
    }

    private static void sitWithWhoStands() {
        StrapWindow w = Window.on("train 20 0 0;tunnel 0 0;hole 1;person 0 0 9 20 4;person 1 0 9 20 3;person 2 0 9 20 2;"
            + "person 3 0 9 20 1;person 0 0 9 50 20;front 4");
        due("who stands is not asked", w.sit(false, 0), 4 * 9);
        due("who stands", w.sit(false, 6), NONE);
        due("SEAT of 3", w.sit(false, 5), 3);
    }

    private static void plan() {
        StrapWindow w = Window.on("train 20 0 0;person 0 0 9 20 20");
        String before = Window.sight(w);
        // HOLE 1 then 2: (0 + 256), (4 + 144); HOLE 0, 0: 400 + 1 + 400
        refused(w, "plan(1, NONE)", w.plan(1, NONE), 256, before);
        due("plan(1, 0)", w.plan(1, 0), 1);
        due("plan(1, 1)", w.plan(1, 1), -2);
        due("plan(2, NONE)", w.plan(2, NONE), 256 + 4 + 144);
        due("plan(2, 0)", w.plan(2, 0), 1);
        due("plan(2, 1)", w.plan(2, 1), 2);
        due("plan(2, 2)", w.plan(2, 2), -2);
        due("plan(2, 23)", w.plan(2, 23), -2);
        int[][] wrong = {{0, 0}, {25, 0}, {1, 24}, {1, -2}, {-1, NONE}, {Integer.MAX_VALUE, 0}};
        for (int[] a : wrong) {
            due("plan(" + a[0] + ", " + a[1] + ")", w.plan(a[0], a[1]), -3);
        }
        StrapWindow empty = Window.on("train 20 0 0;hole 3", "pull 5");
        empty.force(0);
        int[] first = {2, 1, 0, 0};
        due("nobody", empty.plan(24, NONE), 0);
        for (int i = 0; i < 4; i++) {
            due("the first row", empty.plan(24, i), first[i]);
        }
        // WARMTH 20, then 21 less the HOLE (by the KNOB told), then 5 more less the HOLE: 1 and 2 are the most there can be
        StrapWindow late = Window.on("train 20 1 1;person 7 0 9 20 0");
        late.turn(3);
        due("KNOB shows late", late.plan(3, NONE), 0 + 0 + 9);
        due("KNOB shows late", late.plan(3, 0), 1);
        due("KNOB shows late", late.plan(3, 1), 2);
        due("KNOB shows late", late.plan(3, 2), 1);
        atTheEnd();
    }

    private static void atTheEnd() {
        StrapWindow w = Window.on("train 20 1 1;person 0 0 240 20 0", "pull 0");
        for (int i = 0; i < 230; i++) {
            w.mile();
        }
        due("plan(10, 9)", w.plan(10, 9) >= 0 ? 1 : 0, 1);
        due("plan(11, 0)", w.plan(11, 0), -3);
        due("ahead(10, 0)", w.ahead(10, 0), 0);
        due("ahead(11, 0)", w.ahead(11, 0), NONE);
        due("comes(NONE, 10, 2)", w.comes(NONE, 10, 2), 0);
        due("comes(NONE, 11, 2)", w.comes(NONE, 11, 2), NONE);
        due("gains(0, 0, 10, 0)", w.gains(0, 0, 10, 0), 0);
        due("gains(0, 0, 11, 0)", w.gains(0, 0, 11, 0), -100);
        due("rests(0, 10, 0)", w.rests(0, 10, 0), 3);
        due("rests(0, 11, 0)", w.rests(0, 11, 0), -200);
        due("journeys(1, 10, 0, 1)", w.journeys(1, 10, 0, 1), 0);
        due("journeys(1, 11, 0, 1)", w.journeys(1, 11, 0, 1), NONE);
        for (int i = 0; i < 10; i++) {
            w.mile();
        }
        due("ahead(0, 0)", w.ahead(0, 0), 0);
        due("plan(1, 0)", w.plan(1, 0), -3);
        due("which(false, 1)", w.which(false, 1), 0);
        due("pull at the end", w.pull(3), 0);
        due("turn at the end", w.turn(3), 1);
        due("say at the end", w.say(0, 3), 0);
        due("swing at the end", w.swing(30) >= 0 ? 1 : 0, 1);
        due("undo()", w.undo(), 19);
    }

    private static void comes() {
        StrapWindow w = Window.on(TWO, "pull 0", "pull 3");
        w.force(1);
        String before = Window.sight(w);
        refused(w, "comes(NONE, 3, 0)", w.comes(NONE, 3, 0), 196, before);
        due("comes(NONE, 3, 1)", w.comes(NONE, 3, 1), 4 + 34 + 82);
        due("of those aboard then", w.comes(NONE, 3, 2), 0);
        due("comes(NONE, 2, 2)", w.comes(NONE, 2, 2), 2);
        // by HOLE 0: P0 64, then WARMTH 20: 64; P1 4 + 16, 4 + 16
        due("comes(0, 2, 0)", w.comes(0, 2, 0), 64 + 64 + 20 + 20);
        due("comes(0, 2, 1)", w.comes(0, 2, 1), 128);
        due("comes(0, 2, 2)", w.comes(0, 2, 2), 2);
        w.force(NONE);
        w.mile();
        due("in these alone", w.comes(NONE, 1, 0), 56);
        int[][] wrong = {{-2, 1, 0}, {2, 1, 0}, {0, 0, 0}, {0, 61, 0}, {0, 1, 3}, {0, 1, -1}};
        for (int[] a : wrong) {
            due("comes(" + a[0] + ", " + a[1] + ", " + a[2] + ")", w.comes(a[0], a[1], a[2]), NONE);
        }
        due("comes(0, 60, 2)", w.comes(0, 60, 2), 60);
    }

    private static void gains() {
        // the middle of two is the lower one: 0 wishes 8 in SEAT 1 (HOLE 3 is 9: nearest), 1 wishes 0
        StrapWindow w = Window.on("train 20 0 0;person 1 0 9 20 8;person 0 0 9 20 0", "pull middle", "pull most+less", "pull window");
        String before = Window.sight(w);
        refused(w, "gains(0, 0, 1, 0)", w.gains(0, 0, 1, 0), 0, before);
        due("gains(0, 0, 1, 1)", w.gains(0, 0, 1, 1), 0);
        // 1 sits by the window and asks for more than they wish
        w.say(1, 9);
        due("gains(1, 2, 1, 0)", w.gains(1, 2, 1, 0), 0);
        due("gains(1, 2, 1, 1)", w.gains(1, 2, 1, 1), 64);
        // wants 1 by AIR up to 6, 2 by 7 to 10, 3 from 11 on; of HOLES 1 and 2 AIR is as near to 6
        StrapWindow near = Window.on("train 20 0 0;person 0 0 9 20 6", "pull window-1");
        due("nearest to 0", near.gains(0, 0, 1, 0), 1);
        due("how much less", near.gains(0, 0, 1, 1), 36 - 4);
        StrapWindow less = Window.on("train 20 0 0;person 0 0 9 20 8", "pull 5 if window=2;pull 2");
        due("nearest to 0", less.gains(0, 0, 1, 0), -2);
        due("how much less", less.gains(0, 0, 1, 1), 144);
        // SEAT 1: wants 2 by AIR 5 to 7, so that LIES -2 and 2 are as near
        StrapWindow tie = Window.on("train 20 0 0;person 1 0 9 20 6;hole 2", "pull 2 if less+more=1;pull 5");
        due("of these the lesser", tie.gains(0, 0, 1, 0), -2);
        due("how much less", tie.gains(0, 0, 1, 1), 81);
        int[][] wrong = {{2, 0, 1, 0}, {-1, 0, 1, 0}, {0, NONE, 1, 0}, {0, 3, 1, 0}, {0, 0, 0, 0}, {0, 0, 61, 0}, {0, 0, 1, 2},
            {0, 0, 1, -1}};
        for (int[] a : wrong) {
            due("gains(" + a[0] + ", " + a[1] + ", " + a[2] + ", " + a[3] + ")", w.gains(a[0], a[1], a[2], a[3]), -100);
        }
        StrapWindow away = Window.on("train 20 0 0;person 0 5 9 20 8;says 0 18", "pull window");
        due("not aboard in these", away.gains(0, 0, 5, 0), 0);
        due("not aboard in these", away.gains(0, 0, 5, 1), 0);
    }

    private static void rests() {
        // alone by the window: AIR 8, wants 2 by LIE 0, 1 by -4, 3 by 4
        StrapWindow w = Window.on("train 20 0 0;person 0 0 9 20 8;says 0 18", "pull window", "pull 1", "pull 4-window");
        String before = Window.sight(w);
        refused(w, "rests(0, 1, 0)", w.rests(0, 1, 0), 1, before);
        due("rests(0, 1, 1)", w.rests(0, 1, 1), 0);
        due("rests(0, 1, 2)", w.rests(0, 1, 2), -100);
        due("rests(0, 1, 3)", w.rests(0, 1, 3), -100);
        due("rests(1, 12, 0)", w.rests(1, 12, 0), 3);
        due("the first row", w.rests(1, 12, 1), -4);
        int[][] wrong = {{NONE, 1, 0}, {3, 1, 0}, {0, 0, 0}, {0, 13, 0}, {0, 1, 4}, {0, 1, -1}};
        for (int[] a : wrong) {
            due("rests(" + a[0] + ", " + a[1] + ", " + a[2] + ")", w.rests(a[0], a[1], a[2]), -200);
        }
        StrapWindow four = Window.on("train 20 0 0;person 0 0 9 20 8;person 1 0 9 20 8;person 2 0 9 20 8;person 3 0 9 20 8", "pull 1");
        due("three of four", four.rests(0, 1, 0), 27);
        due("three of four", four.rests(0, 1, 3), -4);
        StrapWindow none = Window.on("train 20 0 0", "pull 1");
        due("nobody: the empty row", none.rests(0, 1, 0), 1);
        due("nobody: the empty row", none.rests(0, 1, 1), -100);
        // 0 gets their HOLE if what both say is alike, 1 if it is not: somebody always parts
        StrapWindow unrest = Window.on("train 20 0 0;hole 3;person 0 0 9 20 0;person 1 0 9 20 12", "pull 0 if window=more;pull 4");
        due("without a row", unrest.rests(0, 1, 0), 0);
        due("without a row", unrest.rests(0, 1, 1), -100);
        due("without a row", unrest.rests(0, 1, 2), -100);
        // 1 wants more whatever they say; 0 does by LIE 4 alone, and that makes it HOLE 4, not 5
        StrapWindow row = Window.on("train 20 0 0;person 0 0 9 20 0;person 1 0 9 20 12", "pull 3 if more=0;pull 4 if more=2;pull 5");
        due("the first row", row.rests(0, 1, 0), 3);
        due("the first row", row.rests(0, 1, 1), 4);
        due("the first row", row.rests(0, 1, 2), -4);
        due("the first row", row.rests(0, 1, 3), -100);
    }

    private static void swing() {
        StrapWindow w = Window.on("train 20 0 0;hole 2;cold 0 239 4", "pull 5");
        w.force(0);
        String before = Window.sight(w);
        // at 20: KNOB 0 stays, 17; to 3: 20; at 20 KNOB 3 stays: 23; to 0: 20; then 17 ..
        refused(w, "swing(20)", w.swing(20), 6, before);
        for (int warmth : new int[] {-1, 61, Integer.MIN_VALUE, Integer.MAX_VALUE}) {
            due("swing(" + warmth + ")", w.swing(warmth), NONE);
        }
        due("swing(0): held at 0", w.swing(0), 0);
        due("swing(60): held at 60", w.swing(60), 0);
        StrapWindow still = Window.on("train 20 2 3;hole 3");
        due("it settles", still.swing(20), 0);
        StrapWindow turned = Window.on("train 20 1 0;hole 3");
        turned.turn(2);
        due("by the KNOB as it was turned", turned.swing(20), 0);
        // HOLE 5 and KNOB 3: WARMTH stays, below what is wished
        StrapWindow most = Window.on("train 20 3 0;hole 5");
        due("it settles", most.swing(50), 0);
        // above it by KNOB 0 6 less each: 20, 14, then as it is below: stays 14
        due("it settles below", most.swing(15), 0);
        // LAG 1: the KNOB of the mile ahead counts
        StrapWindow late = Window.on("train 20 0 1;hole 0");
        late.turn(3);
        // 19 by the KNOB told, 24, 29 by 3, then by 0 down to 20, 19, to 3 but 18, 23, to 0 but 28, 27 ..: 18 to 28 for ever
        due("LAG 1", late.swing(20), 28 - 18);
    }

    private static void log() {
        StrapWindow w = Window.on("train 20 0 0");
        due("log(0, 20)", w.log(0, 20), 1);
        int[][] wrong = {{-2, 0}, {61, 0}, {0, 61}, {0, -1}, {Integer.MIN_VALUE, 0}};
        for (int[] a : wrong) {
            due("log(" + a[0] + ", " + a[1] + ")", w.log(a[0], a[1]), -2);
        }
        due("count(11)", w.count(11), 1);
        for (int i = 2; i <= 10; i++) {
            due("log " + i, w.log(0, 20), i);
        }
        due("an eleventh", w.log(0, 20), -2);
        due("count(11)", w.count(11), 10);
        due("log(NONE, 0)", w.log(NONE, 0), 0);
        due("count(11)", w.count(11), 0);
        due("log(60, 60)", w.log(60, 60), 1);
        due("no ACT", w.count(12), 0);
        due("without a TRAIN", new StrapWindow().log(0, 0), -2);
        due("without a TRAIN", new StrapWindow().log(NONE, 0), 0);
    }

    private static void ruled() {
        // WARMTH 30, told KNOB 2 for a MILE; COLD 1 in MILE 1: behind 1 MILE 33 - HOLE, behind 2 31 - 2 * HOLE + 2 * KNOB
        StrapWindow w = Window.on("train 30 2 1;hole 4;cold 1 1 1");
        w.pull(5);
        w.turn(0);
        w.mile();
        due("without LOGS", w.ruled(0), 24);
        due("the first", w.ruled(1), 0);
        due("the first", w.ruled(2), 0);
        w.log(2, 29);
        String before = Window.sight(w);
        // KNOB is HOLE - 1
        refused(w, "ruled(0)", w.ruled(0), 4, before);
        due("ruled(1)", w.ruled(1), 1);
        due("ruled(2)", w.ruled(2), 0);
        w.log(1, 30);
        due("ruled(0)", w.ruled(0), 1);
        due("ruled(1)", w.ruled(1), 3);
        due("ruled(2)", w.ruled(2), 2);
        w.log(0, 29);
        due("none", w.ruled(0), 0);
        due("none", w.ruled(1), -2);
        due("none", w.ruled(2), -2);
        due("ruled(3)", w.ruled(3), NONE);
        due("ruled(-1)", w.ruled(-1), NONE);
    }

    private static void look() {
        StrapWindow w = Window.on("train 30 2 1;hole 4;cold 1 1 1");
        due("look(0)", w.look(0), 24);
        due("look(1)", w.look(1), 4);
        w.log(2, 29);
        String before = Window.sight(w);
        refused(w, "look(0)", w.look(0), 4, before);
        due("look(1)", w.look(1), 1);
        due("look(2)", w.look(2), 4);
        due("look(NONE)", w.look(NONE), 1);
        // behind 60 MILES all are at 60 or at 0 but where KNOB makes up for the HOLE
        due("look(60)", w.look(60) > 1 ? 1 : 0, 1);
        due("look(61)", w.look(61), -3);
        due("look(-2)", w.look(-2), -3);
        w.log(0, 0);
        due("none is RULED", w.look(0), -2);
        due("none is RULED", w.look(NONE), -2);
        due("none is RULED", w.look(61), -3);
        // held at 60 for 59 MILES: 2 * KNOB - HOLE - 1 is 0 or 1 for three each, and shows in the cold of MILE 59 alone
        StrapWindow held = Window.on("train 60 0 0;cold 59 59 4");
        held.log(59, 60);
        due("look(59)", held.look(59), 12);
        due("look(60)", held.look(60), 3);
        due("look(NONE)", held.look(NONE), 60);
    }

    private static void seed() {
        StrapWindow w = new StrapWindow();
        due("seed(5)", w.seed(5), 0);
        due("seed(most)", w.seed(Integer.MAX_VALUE), 5);
        due("seed(-1)", w.seed(-1), NONE);
        due("seed(least)", w.seed(Integer.MIN_VALUE), NONE);
        due("count(13)", w.count(13), Integer.MAX_VALUE);
        due("seed(0)", w.seed(0), Integer.MAX_VALUE);
    }

    private static void journeys() {
        // x 0: 12345, DRAW 0; then 1406932606 (DRAW 21468), 654583775 (9988), 1449466924 (22117), 229283573 (3498)
        StrapWindow w = Window.on("train 20 0 0;person 0 0 9 20 8;person 1 0 9 20 3", "pull hole+1");
        String before = Window.sight(w);
        // 0 below 100: 21468 mod 2 is 0, who WANTS 2 (1 WANTS 1): AIR 8 and 6
        refused(w, "journeys(1, 1, 100, 0)", w.journeys(1, 1, 100, 0), 0 + 9, before);
        due("CROSSNESS", w.journeys(1, 1, 100, 1), 1);
        due("x", w.count(13), 0);
        // p 0: a DRAW a MILE, nobody PULLS
        due("p 0", w.journeys(1, 1, 0, 0), 64 + 9);
        due("p 0", w.journeys(1, 1, 0, 1), 2);
        // the second one: 9988 mod 100 is 88; p 88 is not below, p 89: 22117 mod 2 is 1, who WANTS 1: AIR 4 and 3
        due("two", w.journeys(2, 1, 88, 0), 9 + 64 + 9);
        due("two", w.journeys(2, 1, 89, 0), 9 + 16);
        due("two", w.journeys(2, 1, 89, 1), 1 + 1);
        // by the RULE from the HOLE pulled: HOLE 3, AIR 12 and 9
        w.force(0);
        due("by the RULE", w.journeys(1, 1, 100, 0), 16 + 36);
        StrapWindow empty = Window.on("train 20 0 0;person 0 1 9 20 8");
        // nobody aboard in MILE 0: one DRAW (0), then 21468 mod 100 is 68, below 69: 9988 mod 1
        due("nobody aboard", empty.journeys(1, 2, 69, 0), 1 + 0);
        due("nobody aboard", empty.journeys(1, 2, 68, 0), 1 + 64);
        int[][] wrong = {{0, 1, 0, 0}, {11, 1, 0, 0}, {1, 0, 0, 0}, {1, 61, 0, 0}, {1, 1, -1, 0}, {1, 1, 101, 0}, {1, 1, 0, 2},
            {1, 1, 0, -1}};
        for (int[] a : wrong) {
            due("journeys(" + a[0] + ", " + a[1] + ", " + a[2] + ", " + a[3] + ")", w.journeys(a[0], a[1], a[2], a[3]), NONE);
        }
    }

    private static void count() {
        StrapWindow w = Window.on(TWO, "pull 1", "pull 2");
        w.force(1);
        w.pull(3);
        w.turn(2);
        w.log(0, 0);
        w.seed(77);
        w.feed(0, 0, 0, 0, 0);
        w.mile();
        int[] due = {19, 2, 2, 2, 2, 3, 2, 2, 2, 1, 1, 1, 3, 77, 20};
        due[0] = 20 + 2 - 2 - 1 - 1;
        for (int what = 0; what <= 14; what++) {
            due("count(" + what + ")", w.count(what), due[what]);
        }
        for (int what : new int[] {-1, 15, Integer.MIN_VALUE, Integer.MAX_VALUE}) {
            due("count(" + what + ")", w.count(what), NONE);
        }
    }

    private static void image() {
        StrapWindow w = Window.on(TWO);
        w.mile();
        w.mile();
        String before = Window.sight(w);
        for (int k = 0; k < 4; k++) {
            refused(w, "image(" + k + ")", w.image(k), 2, before);
        }
        for (int k : new int[] {-1, 4, Integer.MIN_VALUE, Integer.MAX_VALUE}) {
            due("image(" + k + ")", w.image(k), NONE);
        }
    }

    private static void back() {
        StrapWindow w = Window.on(TWO, "pull 1");
        w.mile();
        w.pull(5);
        w.seed(4);
        w.log(3, 7);
        w.force(0);
        String first = Window.sight(w);
        due("image(1)", w.image(1), 1);
        due("back(0)", w.back(0), NONE);
        due("back(4)", w.back(4), NONE);
        due("back(-1)", w.back(-1), NONE);
        Window.same("back", Window.sight(w), first);
        w.force(NONE);
        w.seed(5);
        w.log(NONE, 0);
        Window.train(w, "train 9 0 0;person 0 0 3 0 0");
        w.mile();
        w.mile();
        String second = Window.sight(w);
        due("image(2)", w.image(2), 2);
        due("back(1)", w.back(1), 1);
        Window.same("back(1)", Window.sight(w), first);
        due("undo()", w.undo(), 1);
        due("undo()", w.undo(), 0);
        due("MILE", w.count(10), 0);
        due("undo()", w.undo(), -2);
        Window.rule(w, "pull 2");
        w.feed(0, 0, 0, 0, 0);
        due("back(2)", w.back(2), 2);
        due("RULES stay", w.count(8), 2);
        due("the TAPE stays", w.count(14), 20);
        w.end(0);
        due("a RULE told since", w.force(1), NONE);
        w.force(NONE);
        Window.same("back(2)", Window.sight(w).replace(" 0 2 -1 2 ", " 0 1 -1 2 "), second);
        w.mile();
        due("back(1)", w.back(1), 1);
        due("RULES stay", w.count(8), 2);
        due("WARMTH again", w.count(0), 18);
        due("HOLE again", w.count(3), 5);
        due("x again", w.count(13), 4);
        due("LOGS again", w.count(11), 1);
        due("RULE IN FORCE again", w.count(9), 0);
        due("image(1) anew", w.image(1), 1);
        StrapWindow none = new StrapWindow();
        due("image(3) without a TRAIN", none.image(3), 0);
        Window.train(none, "train 9 0 0");
        due("back(3)", none.back(3), 0);
        due("no TRAIN", none.mile(), NONE);
    }

    private static void withoutTrain() {
        StrapWindow w = new StrapWindow();
        Window.rule(w, "pull 1");
        due("seat", w.seat(0), -2);
        due("stretch", w.stretch(0, 0), NONE);
        due("mile", w.mile(), NONE);
        due("pull", w.pull(1), NONE);
        due("turn", w.turn(1), NONE);
        due("ahead", w.ahead(0, 0), NONE);
        due("which", w.which(true, 0), NONE);
        due("sit", w.sit(true, 0), NONE);
        due("plan", w.plan(1, 0), -3);
        due("comes", w.comes(0, 1, 0), NONE);
        due("gains", w.gains(0, 0, 1, 0), -100);
        due("rests", w.rests(0, 1, 0), -200);
        due("swing", w.swing(0), NONE);
        due("ruled", w.ruled(0), NONE);
        due("look", w.look(0), -3);
        due("journeys", w.journeys(1, 1, 1, 0), NONE);
        due("undo", w.undo(), -2);
    }
}
