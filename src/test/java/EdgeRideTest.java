/** The boundary cases of the ride and of the acts: promises 7 to 16, and part II of the terms. */
public final class EdgeRideTest {
    private static final int NONE = StrapWindow.NONE;
    private static final int LEAST = Edges.LEAST;
    private static final int MOST = Edges.MOST;
    /** Who won't ride backwards in 0 to 3, one more of them who stands, others in 4 and 7, one yet to get in. */
    private static final String[] FRONTS = Edges.on("train 20 0 0;hole 1;person 0 0 9 20 4;person 1 0 9 20 4;person 2 0 9 20 4;"
        + "person 3 0 9 20 4;person 3 0 9 20 4;person 4 0 9 20 4;person 7 0 9 20 4;person 5 4 9 20 4;front 0;front 1;front 2;"
        + "front 3;front 4");

    public static void main(String[] args) {
        personRefused();
        personAboard();
        personSuffers();
        air();
        wants();
        seat();
        stretch();
        mile();
        lastMile();
        tunnelsAndColds();
        warmthHeld();
        lag();
        crossness();
        gettingIn();
        standing();
        pull();
        turn();
        seats();
        say();
        undo();
        twentyActs();
        Window.close();
    }

    private static void personRefused() {
        Edges.nothing("7: -100 without these", Edges.RICH, -100, "person -1 0", "person 5 0", "person 8 0", "person " + LEAST + " 0",
            "person " + MOST + " 0", "person 0 -1", "person 0 10", "person 0 " + LEAST, "person 0 " + MOST, "person 5 10");
        Edges.nothing("7: without a TRAIN", Edges.NEW, -100, "person 0 0", "person 0 6", "person 7 9", "person -1 -1");
        Edges.nothing("7: without PEOPLE", Edges.on("train 1 1 1"), -100, "person 0 0", "person 0 1");
        for (int what = 0; what <= 9; what++) {
            Edges.asked("7: nothing changes", Edges.RICH, "person 0 " + what, "person 4 " + what);
        }
    }

    private static void personAboard() {
        String[] ride = Edges.on("train 60 0 0;person 7 2 4 9 20");
        int[][] due = {{NONE, 0, NONE, 0}, {NONE, 0, NONE, 0}, {7, 1, 0, 49 * 49 + 400}, {7, 1, 0, 48 * 48 + 400}, {NONE, 0, NONE, 0}};
        int[] suffered = {0, 0, 0, 49 * 49 + 400, 49 * 49 + 400 + 48 * 48 + 400};
        for (int mile = 0; mile <= 4; mile++) {
            for (int what = 0; what < 4; what++) {
                Edges.due("7: IN at 2, OUT at 4, MILE " + mile, Edges.miles(ride, mile), "person 0 " + what, due[mile][what]);
            }
            Edges.due("7: SUFFERED so far", Edges.miles(ride, mile), "person 0 5", suffered[mile], "count 5", due[mile][1]);
        }
        Edges.due("7: the least", Edges.on("train 0 0 0;person 0 0 1 0 0;says 0 0"), "person 0 0", 0, "person 0 6", -9, "person 0 7", 0,
            "person 0 8", 0, "person 0 9", 0);
        Edges.due("7: the greatest", Edges.on("train 0 0 0;person 7 0 240 60 20;says 0 18"), "person 0 0", 7, "person 0 6", 9,
            "person 0 7", 60, "person 0 8", 20);
        Edges.due("7: 1 if they won't ride backwards", Edges.on("train 0 0 0;person 7 0 240 60 20;front 0"), "person 0 9", 1);
        Edges.due("7: not aboard, but told", Edges.on("train 0 0 0;person 7 9 240 60 20;says 0 3"), "person 0 4", 0, "person 0 5", 0,
            "person 0 6", -6, "person 0 7", 60, "person 0 8", 20, "person 0 9", 0);
    }

    private static void personSuffers() {
        Edges.due("SUFFERS: nothing", Edges.on("train 20 0 0;hole 2;person 0 0 9 20 8"), "person 0 3", 0);
        Edges.due("SUFFERS: by HOLE 0 in a tunnel", Edges.on("train 20 0 0;person 0 0 9 20 0;tunnel 0 0"), "person 0 3", 0);
        Edges.due("SUFFERS: most", Edges.on("train 60 0 0;hole 5;person 0 0 9 0 0;tunnel 0 0"), "person 0 3", 3600 + 400 + 45);
        Edges.due("SUFFERS: below what they wish", Edges.on("train 0 0 0;person 7 0 9 60 20"), "person 0 3", 3600 + 400);
        Edges.due("SUFFERS: two tunnels at once", Edges.on("train 20 0 0;hole 1;person 7 0 9 20 0;tunnel 0 5;tunnel 0 0"), "person 0 3", 9);
        Edges.due("SUFFERS: not by their LIE", Edges.on("train 20 0 0;hole 2;person 0 0 9 20 8;says 0 18"), "person 0 3", 0);
        Edges.due("AIR: none for who stands", FRONTS, "pull 5", 1, "person 4 0", NONE, "person 4 3", 16, "person 0 3", 256);
    }

    private static void air() {
        int[] times = {4, 3, 2, 1, 3, 2, 1, 0};
        for (int seat = 0; seat < 8; seat++) {
            for (int hole = 0; hole < 6; hole++) {
                Edges.due("8: AIR", Edges.NEW, "air " + seat + " " + hole, times[seat] * hole);
            }
        }
        for (String[] given : new String[][] {Edges.NEW, Edges.RICH}) {
            Edges.nothing("8: NONE without these", given, NONE, "air -1 0", "air 8 0", "air 0 -1", "air 0 6", "air 8 6", "air -1 -1",
                "air " + LEAST + " 1", "air " + MOST + " 1", "air 1 " + LEAST, "air 1 " + MOST);
            Edges.nothing("8: nothing changes", given, 20, "air 0 5");
        }
    }

    /** Who sits there and wishes so much air and says so much more wants this hole. */
    private static void want(int seat, int air, int lie, int want) {
        Edges.due("WANTS: SEAT " + seat + ", AIR " + air + ", LIE " + lie, Edges.on("train 20 0 0;person " + seat + " 0 9 20 " + air
            + ";says 0 " + (lie + 9)), "person 0 2", want);
    }

    private static void wants() {
        int[] times = {4, 3, 2, 1, 3, 2, 1, 0};
        for (int seat = 0; seat < 8; seat++) {
            for (int air = 0; air <= 20; air += 1) {
                for (int lie = -9; lie <= 9; lie += 3) {
                    int nearest = 0;
                    for (int hole = 5; hole >= 0; hole--) {
                        int off = Math.abs(times[seat] * hole - air - lie);
                        nearest = off <= Math.abs(times[seat] * nearest - air - lie) ? hole : nearest;
                    }
                    want(seat, air, lie, nearest);
                }
            }
        }
        want(0, 2, 0, 0);
        want(0, 3, 0, 1);
        want(0, 18, 0, 4);
        want(0, 19, 0, 5);
        want(0, 20, 9, 5);
        want(0, 0, -9, 0);
        want(3, 20, 9, 5);
        want(2, 1, 0, 0);
        want(2, 9, 0, 4);
        want(7, 20, 9, 0);
        Edges.due("WANTS: who stands 0", FRONTS, "person 4 0", NONE, "person 4 2", 0, "say 4 9", 0, "person 4 2", 0);
    }

    private static void seat() {
        for (int seat = 0; seat < 8; seat++) {
            Edges.due("9: who sits in it", Edges.on("train 1 1 1;person " + seat + " 0 9 9 9"), "seat " + seat, 0, "seat " + (seat ^ 1), NONE);
            Edges.nothing("9: NONE", Edges.on("train 1 1 1"), NONE, "seat " + seat);
            Edges.nothing("9: without a TRAIN", Edges.NEW, -2, "seat " + seat);
        }
        for (String[] given : new String[][] {Edges.NEW, Edges.RICH, Edges.OVER}) {
            Edges.nothing("9: -2 without it", given, -2, "seat -1", "seat 8", "seat " + LEAST, "seat " + MOST);
        }
        Edges.due("9: who stands sits in none", FRONTS, "seat 0", 0, "seat 3", 3, "seat 4", 5, "seat 5", NONE, "seat 6", NONE, "seat 7", 6);
    }

    private static void stretch() {
        Edges.nothing("10: NONE without a TRAIN", Edges.NEW, NONE, "stretch 0 0", "stretch 239 1");
        for (String[] given : new String[][] {Edges.NEW, Edges.RICH, Edges.OVER}) {
            Edges.nothing("10: NONE without these", given, NONE, "stretch -1 0", "stretch -1 1", "stretch 240 0", "stretch 240 1",
                "stretch 0 -1", "stretch 0 2", "stretch 239 2", "stretch " + LEAST + " 0", "stretch " + MOST + " 0",
                "stretch 0 " + LEAST, "stretch 0 " + MOST);
        }
        Edges.due("10: MILES 0 and 239", Edges.on("train 1 1 1;tunnel 0 0;tunnel 239 239;cold 0 0 1;cold 239 239 4"), "stretch 0 0", 1,
            "stretch 1 0", 0, "stretch 238 0", 0, "stretch 239 0", 1, "stretch 0 1", 1, "stretch 1 1", 0, "stretch 238 1", 0,
            "stretch 239 1", 4);
        Edges.due("10: none", Edges.on("train 1 1 1"), "stretch 0 0", 0, "stretch 0 1", 0, "stretch 239 0", 0, "stretch 239 1", 0);
        Edges.asked("10: nothing changes", Edges.RICH, "stretch 3 0", "stretch 3 1");
    }

    private static void mile() {
        Edges.nothing("11: NONE without a TRAIN", Edges.NEW, NONE, "mile");
        Edges.nothing("11: NONE without a TRAIN", Edges.RULED, NONE, "mile");
        Edges.nothing("11: NONE without a TRAIN", Edges.then(Edges.RULED, "force 1"), NONE, "mile");
        Edges.nothing("11: NONE at MILE 240", Edges.OVER, NONE, "mile");
        Edges.due("11: nobody SUFFERED", Edges.on("train 1 1 1"), "mile", 0, "count 10", 1);
        Edges.due("11: all, together", FRONTS, "mile", 0 + 1 + 4 + 9 + 16 + 1 + 16);
        // wants 2 by AIR 8; by the RULE it is HOLE 5 already in this MILE
        Edges.due("11: by the RULE IN FORCE", Edges.on("train 20 0 0;person 0 0 9 20 8", "rule: pull 9", "force 0"), "mile", 144, "count 3", 5,
            "count 0", 14, "person 0 4", 1);
    }

    private static void lastMile() {
        String[] ride = Edges.miles(Edges.on("train 0 0 0;person 0 239 240 7 0;person 1 0 239 9 0;person 2 0 240 3 0"), 238);
        Edges.due("IN at 239, OUT at 239, OUT at 240", ride, "count 10", 238, "count 5", 6, "mile", 81 + 9, "count 5", 5, "seat 0", 0,
            "mile", 49 + 9, "count 10", 240, "count 5", 0, "seat 0", NONE, "mile", NONE, "count 10", 240, "person 0 5", 49,
            "count 12", 20);
        Edges.due("the last MILE undone", Edges.OVER, "count 10", 240, "undo", 19, "count 10", 239, "mile", 400 + 16 + 27,
            "count 10", 240);
    }

    private static void tunnelsAndColds() {
        String[] ride = Edges.on("train 30 0 0;hole 1;person 7 0 9 30 0;tunnel 1 2;cold 1 2 4;cold 2 3 3");
        // WARMTH is less by 2 each, by 4 more in MILE 1, 7 in 2, 3 in 3: 30, 28, 22, 13, 8, 6
        Edges.due("in a tunnel from its first to its last MILE; COLDS together", ride, "mile", 0, "count 0", 28, "mile", 4 + 9, "count 0", 22,
            "mile", 64 + 9, "count 0", 13, "mile", 289, "count 0", 8, "mile", 484, "count 0", 6);
    }

    private static void warmthHeld() {
        Edges.due("held to 60", Edges.on("train 55 3 0"), "mile", 0, "count 0", 60, "mile", 0, "count 0", 60);
        Edges.due("held to 60: up to it", Edges.on("train 54 3 0"), "mile", 0, "count 0", 59, "mile", 0, "count 0", 60);
        Edges.due("held to 0", Edges.on("train 6 0 0;hole 5"), "mile", 0, "count 0", 0, "mile", 0, "count 0", 0);
        Edges.due("held to 0: down to it", Edges.on("train 7 0 0;hole 5"), "mile", 0, "count 0", 1, "mile", 0, "count 0", 0);
        Edges.due("held once, not between", Edges.on("train 58 3 0;hole 5;cold 0 0 4"), "mile", 0, "count 0", 54);
        Edges.due("held once, not between", Edges.on("train 1 3 0;hole 5;cold 0 0 4"), "mile", 0, "count 0", 0);
        Edges.due("held once, not between", Edges.on("train 5 3 0;hole 5;cold 0 0 4"), "mile", 0, "count 0", 1);
        Edges.due("from 0 again", Edges.on("train 0 3 0;hole 5;cold 0 0 4"), "mile", 0, "count 0", 0, "pull 0", 5, "mile", 0, "count 0", 5);
    }

    private static void lag() {
        for (int lag = 0; lag <= 6; lag++) {
            for (int miles = 0; miles <= 9; miles++) {
                // by KNOB 1 1 more each, by 3 5 more
                int due = 5 + Math.min(miles, lag) + 5 * Math.max(0, miles - lag);
                Edges.due("LAG " + lag + ": as told, ahead of MILE 0", Edges.on("train 5 1 " + lag, "turn 3"), "ahead " + miles + " 1",
                    due);
                int later = 7 + Math.min(miles, lag) + 5 * Math.max(0, miles - lag);
                Edges.due("LAG " + lag + ": from this MILE on", Edges.on("train 5 1 " + lag, "mile", "mile", "turn 3"),
                    "ahead " + miles + " 1", later);
            }
            // turned for one MILE alone: it shows for one
            Edges.due("LAG " + lag + ": a MILE long", Edges.on("train 5 1 " + lag, "turn 3", "mile", "turn 1"), "ahead 8 1", 5 + 8 + 5);
            Edges.due("LAG " + lag + ": turned to and fro", Edges.on("train 5 1 " + lag, "turn 3", "turn 0", "turn 1"), "ahead 8 1", 5 + 8);
        }
    }

    private static void crossness() {
        String[] ride = Edges.on("train 20 0 0;person 3 0 3 20 1;person 7 0 9 20 9");
        Edges.due("who WANTS another HOLE 1 more, who wants this 1 less, 0 at least", ride, "mile", 1 + 81, "person 0 4", 1, "person 1 4", 0,
            "mile", 1 + 1 + 1 + 81, "person 0 4", 2, "pull 1", 0, "mile", 4 + 4 + 81, "person 0 4", 1, "person 1 4", 1);
        Edges.due("CROSSNESS stays with who is OUT", Edges.miles(ride, 3), "person 0 4", 3, "mile", 9 + 81, "person 0 4", 3);
        Edges.due("not yet IN", Edges.on("train 20 0 0;person 0 2 9 20 9"), "mile", 0, "mile", 0, "person 0 4", 0, "person 0 5", 0, "mile", 4 + 81,
            "person 0 4", 1);
        Edges.due("by what they say", Edges.on("train 20 0 0;person 3 0 9 20 0;says 0 10"), "mile", 0, "person 0 4", 1);
    }

    private static void seatsAre(String sentence, String[] given, int... seats) {
        for (int person = 0; person < seats.length; person++) {
            Edges.due(sentence, given, "person " + person + " 0", seats[person]);
        }
    }

    private static void gettingIn() {
        StringBuilder train = new StringBuilder("train 9 0 0");
        for (int person = 0; person < 8; person++) {
            train.append(";person 3 0 9 9 9");
        }
        seatsAre("their SEAT, else the least free one", Edges.on(train.toString()), 3, 0, 1, 2, 4, 5, 6, 7);
        seatsAre("those of MILE 0 sit by numbers", Edges.on("train 9 0 0;person 1 0 9 9 9;person 0 0 9 9 9;person 1 0 9 9 9;person 2 0 9 9 9"),
            1, 0, 2, 3);
        seatsAre("if they take it", Edges.on("train 9 0 0;person 4 0 9 9 9;person 7 0 9 9 9;person 3 0 9 9 9;person 4 0 9 9 9;front 0;front 1;"
            + "front 2"), 0, 1, 3, 4);
        seatsAre("SEATS 3 and 4", Edges.on("train 9 0 0;person 3 0 9 9 9;person 4 0 9 9 9;front 0"), 3, 4);
        seatsAre("else the least free one that they take", Edges.on("train 9 0 0;person 0 0 9 9 9;person 2 0 9 9 9;person 2 0 9 9 9;front 2"),
            0, 2, 1);
        seatsAre("else they stand", FRONTS, 0, 1, 2, 3, NONE, 4, 7, NONE);
        Edges.due("else they stand", FRONTS, "person 4 1", 1, "person 7 1", 0, "count 5", 127);
        String[] ride = Edges.on("train 9 0 0;person 0 0 2 9 9;person 0 2 4 9 9;person 0 2 9 9 9;person 0 1 9 9 9");
        seatsAre("IN at 1: not free", Edges.miles(ride, 1), 0, NONE, NONE, 1);
        seatsAre("first those get OUT; then, by numbers, those IN", Edges.miles(ride, 2), NONE, 0, 2, 1);
        seatsAre("who sits keeps their SEAT", Edges.miles(ride, 4), NONE, NONE, 2, 1);
        seatsAre("a SEAT that was changed is not free", Edges.then(Edges.on("train 9 0 0;person 0 0 9 9 9;person 5 0 9 9 9;person 5 1 9 9 9;"
            + "person 6 1 9 9 9"), "seats 0 1", "mile"), 5, 0, 1, 6);
    }

    private static void standing() {
        String[] ride = Edges.on("train 9 0 0;person 0 0 2 9 9;person 1 0 9 9 9;person 2 0 9 9 9;person 3 0 9 9 9;person 0 0 4 9 9;"
            + "person 3 3 9 9 9;front 4");
        seatsAre("stands", ride, 0, 1, 2, 3, NONE, NONE);
        seatsAre("stands though a SEAT is free", Edges.miles(ride, 2), NONE, 1, 2, 3, NONE, NONE);
        seatsAre("who gets IN takes it", Edges.miles(ride, 3), NONE, 1, 2, 3, NONE, 0);
        Edges.due("till they get OUT", Edges.miles(ride, 4), "person 4 1", 0, "person 4 0", NONE);
        seatsAre("or a SEAT is given to them", Edges.then(ride, "seats 4 3"), 0, 1, 2, NONE, 3, NONE);
        seatsAre("who gave it stands on", Edges.then(ride, "seats 4 3", "mile", "mile", "mile", "mile"), NONE, 1, 2, NONE, NONE, 0);
        seatsAre("who gave it stands on, and a SEAT is free", Edges.then(ride, "seats 4 3", "mile", "mile"), NONE, 1, 2, NONE, 3, NONE);
    }

    private static void pull() {
        Edges.nothing("12: NONE without a TRAIN", Edges.NEW, NONE, "pull 0", "pull 1", "pull 5", "pull -1", "pull 6");
        String[] ride = Edges.on("train 9 0 0;hole 2");
        Edges.nothing("12: another one", ride, NONE, "pull 2");
        Edges.nothing("12: 0 to 5", ride, NONE, "pull -1", "pull 6", "pull " + LEAST, "pull " + MOST);
        Edges.nothing("12: 0 to 5, another one", Edges.RICH, NONE, "pull 2", "pull -1", "pull 6");
        Edges.due("12: the HOLE it was", ride, "pull 0", 2, "pull 0", NONE, "pull 5", 0, "pull 5", NONE, "count 3", 5, "count 12", 2);
        Edges.nothing("12: at MILE 240", Edges.OVER, NONE, "pull 3", "pull -1", "pull 6");
        Edges.due("12: at MILE 240", Edges.OVER, "pull 0", 3, "count 3", 0, "undo", 19, "count 3", 3);
    }

    private static void turn() {
        Edges.nothing("13: NONE without a TRAIN", Edges.NEW, NONE, "turn 0", "turn 1", "turn 3", "turn -1", "turn 4");
        String[] ride = Edges.on("train 9 2 0");
        Edges.nothing("13: another one", ride, NONE, "turn 2");
        Edges.nothing("13: 0 to 3", ride, NONE, "turn -1", "turn 4", "turn " + LEAST, "turn " + MOST);
        Edges.nothing("13: 0 to 3, another one", Edges.RICH, NONE, "turn 0", "turn -1", "turn 4");
        Edges.due("13: the KNOB it was", ride, "turn 0", 2, "turn 0", NONE, "turn 3", 0, "turn 3", NONE, "count 1", 3, "count 12", 2);
        Edges.due("13: it stays from MILE to MILE", ride, "turn 3", 2, "mile", 0, "count 1", 3, "turn 3", NONE);
        Edges.due("13: at MILE 240", Edges.OVER, "turn 1", NONE, "turn 3", 1, "count 1", 3, "undo", 19, "count 1", 1);
    }

    private static void seats() {
        Edges.nothing("14: false without a TRAIN", Edges.NEW, 0, "seats 0 1", "seats 0 0", "seats -1 8");
        Edges.nothing("14: unlike", FRONTS, 0, "seats 0 0", "seats 5 5", "seats 4 4");
        Edges.nothing("14: aboard: not yet", FRONTS, 0, "seats 0 7", "seats 7 0", "seats 4 7", "seats 7 4");
        Edges.nothing("14: aboard: no more", Edges.miles(Edges.on("train 9 0 0;person 0 0 1 9 9;person 1 0 9 9 9"), 1), 0, "seats 0 1", "seats 1 0");
        Edges.nothing("14: such as there are", FRONTS, 0, "seats -1 0", "seats 0 -1", "seats 8 0", "seats 0 8", "seats " + LEAST + " 0",
            "seats 0 " + LEAST, "seats " + MOST + " 0", "seats 0 " + MOST, "seats -1 -1");
        Edges.nothing("14: one beyond the last", Edges.on("train 9 0 0;person 0 0 9 9 9;person 1 0 9 9 9"), 0, "seats 0 2", "seats 2 0");
        Edges.nothing("14: nobody who won't ride backwards comes into 4 to 7", FRONTS, 0, "seats 3 5", "seats 5 3", "seats 0 6", "seats 6 0",
            "seats 4 5", "seats 5 4", "seats 4 6", "seats 6 4");
        Edges.due("14: into 0 to 3 they come", FRONTS, "seats 0 3", 1, "person 0 0", 3, "person 3 0", 0, "seats 4 0", 1, "person 4 0", 3,
            "person 0 0", NONE, "seats 0 1", 1, "person 0 0", 1, "person 1 0", NONE, "count 12", 3);
        Edges.due("14: others come into 4 to 7", FRONTS, "seats 5 6", 1, "person 5 0", 7, "person 6 0", 4);
        String[] two = Edges.on("train 9 0 0;person 0 0 9 9 9;person 1 0 9 9 9;person 2 0 9 9 9;person 3 0 9 9 9;person 0 0 9 9 9;"
            + "person 0 0 9 9 9;front 0;front 1;front 2;front 4;front 5");
        Edges.nothing("14: one of them at least sits", two, 0, "seats 4 5", "seats 5 4");
        Edges.due("14: one of them at least sits", two, "seats 3 4", 1, "person 3 0", NONE, "person 4 0", 3, "seats 5 3", 0, "seats 3 5", 0,
            "seats 4 5", 1, "person 5 0", 3);
        Edges.due("14: SEATS 3 and 4", Edges.on("train 9 0 0;person 3 0 9 9 9;person 4 0 9 9 9"), "seats 0 1", 1, "person 0 0", 4);
        Edges.nothing("14: SEATS 3 and 4", Edges.on("train 9 0 0;person 3 0 9 9 9;person 4 0 9 9 9;front 0"), 0, "seats 0 1", "seats 1 0");
        Edges.due("14: who rides backwards, and one who won't, in 2 and 3", Edges.on("train 9 0 0;person 3 0 9 9 9;person 2 0 9 9 9;front 0"),
            "seats 0 1", 1, "person 0 0", 2);
        Edges.nothing("14: nobody is aboard at the end", Edges.OVER, 0, "seats 0 1", "seats 1 0");
    }

    private static void say() {
        Edges.nothing("15: -100 without a TRAIN", Edges.NEW, -100, "say 0 0", "say 0 1", "say 0 -9");
        String[] ride = Edges.on("train 9 0 0;person 0 0 9 9 9;person 1 5 9 9 9;says 0 12");
        Edges.nothing("15: another one", ride, -100, "say 0 3", "say 1 0");
        Edges.nothing("15: -9 to 9", ride, -100, "say 0 -10", "say 0 10", "say 0 " + LEAST, "say 0 " + MOST, "say 1 10", "say 1 -10");
        Edges.nothing("15: a PERSON", ride, -100, "say -1 0", "say 2 0", "say 8 1", "say " + LEAST + " 1", "say " + MOST + " 1");
        Edges.nothing("15: another one", Edges.RICH, -100, "say 2 5", "say 0 -3", "say 5 1", "say 0 10");
        Edges.due("15: the LIE it was", ride, "say 0 -9", 3, "say 0 -9", -100, "say 0 9", -9, "say 0 0", 9, "person 0 6", 0, "count 12", 3);
        Edges.due("15: of one not aboard too", ride, "say 1 -9", 0, "person 1 6", -9, "person 0 6", 3);
        Edges.due("15: at MILE 240", Edges.OVER, "say 0 0", -100, "say 0 9", 0, "say 1 -9", 0, "count 12", 20);
    }

    private static void undo() {
        Edges.nothing("16: none can", Edges.NEW, -2, "undo");
        Edges.nothing("16: none can", Edges.RULED, -2, "undo");
        Edges.nothing("16: none can", Edges.on("train 9 0 0;person 0 0 9 9 9", "log 0 9", "seed 3", "image 0"), -2, "undo");
        String[] acts = {"mile", "pull 0", "turn 3", "seats 0 3", "say 0 0"};
        for (String act : acts) {
            Edges.alike("16: " + act + " is UNDONE", Edges.then(Edges.RICH, act, "undo"), Edges.RICH);
            Edges.due("16: how many more", Edges.then(Edges.RICH, act), "count 12", 11, "undo", 10, "count 12", 10);
            for (String other : acts) {
                if (!other.equals(act)) {
                    Edges.alike("16: the last first", Edges.then(Edges.RICH, act, other, "undo"), Edges.then(Edges.RICH, act));
                }
            }
        }
        Edges.alike("16: the last MILE", Edges.then(Edges.OVER, "undo", "mile"), Edges.OVER);
        String[] noActs = {"log 5 5", "force 0", "seed 9", "rule: pull 5", "tape: pull 4", "image 0"};
        for (String other : noActs) {
            Window.due("16: no ACT, " + other, Script.of(Edges.then(Edges.RICH, other)).make("count 12"), 10);
        }
        Edges.alike("16: what is no ACT stays", Edges.then(Edges.RICH, "pull 5", "log 5 5", "force 0", "seed 9", "rule: pull 5", "undo"),
            Edges.then(Edges.RICH, "log 5 5", "force 0", "seed 9", "rule: pull 5"));
        String[] refused = {"pull 2", "turn 0", "seats 0 0", "say 0 -3"};
        for (String call : refused) {
            Window.due("16: what was refused is no ACT, " + call, Script.of(Edges.then(Edges.RICH, call)).make("count 12"), 10);
        }
    }

    private static void twentyActs() {
        String[] ride = Edges.on("train 30 1 1;person 0 0 240 20 8");
        for (int acts = 0; acts <= 25; acts++) {
            String[] given = Edges.miles(ride, acts);
            int can = Math.min(20, acts);
            Edges.due(acts + " ACTS", given, "count 12", can, "count 10", acts);
            Edges.due(acts + " ACTS, all of the last 20 UNDONE", Edges.times(given, can, "undo"), "count 12", 0, "count 10", acts - can, "undo",
                -2, "count 10", acts - can);
            Edges.nothing(acts + " ACTS, none more", Edges.times(given, can, "undo"), -2, "undo");
        }
        Edges.due("the 20th", Edges.times(Edges.miles(ride, 25), 19, "undo"), "undo", 0, "undo", -2);
        Edges.due("ACTS behind UNDONE ones", Edges.then(Edges.times(Edges.miles(ride, 25), 20, "undo"), "pull 3", "mile"), "count 12", 2, "undo", 1,
            "undo", 0, "undo", -2, "count 10", 5, "count 3", 0);
        Edges.due("22, 2 UNDONE, 3 more", Edges.miles(Edges.times(Edges.miles(ride, 22), 2, "undo"), 3), "count 12", 20, "undo", 19);
        String[] undone = Edges.times(Edges.miles(ride, 25), 20, "undo");
        for (String call : new String[] {"count 0", "count 1", "count 3", "count 10", "person 0 4", "person 0 5", "ahead 9 1", "ahead 9 2"}) {
            Window.due("as it was behind 5 MILES, " + call, Script.of(undone).make(call), Script.of(Edges.miles(ride, 5)).make(call));
        }
    }
}
