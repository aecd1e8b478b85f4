/** The boundary cases of what is kept: promises 28, 30, 31 and 32. */
public final class EdgeKeepTest {
    private static final int NONE = StrapWindow.NONE;
    private static final int LEAST = Edges.LEAST;
    private static final int MOST = Edges.MOST;
    private static final String OTHER = "train: train 9 0 0;hole 5;person 0 0 3 0 0;tunnel 0 0";

    public static void main(String[] args) {
        seed();
        count();
        countAtLimits();
        image();
        back();
        backFromEachChange();
        whatStays();
        fourImages();
        imagesAndUndo();
        imagesAndTrains();
        Window.close();
    }

    private static void seed() {
        Edges.due("28: 0 at first", Edges.NEW, "seed 0", 0, "seed 1", 0, "seed " + MOST, 1, "seed 0", MOST, "count 13", 0);
        for (String[] given : new String[][] {Edges.NEW, Edges.RULED, Edges.RICH, Edges.OVER}) {
            Edges.nothing("28: NONE below 0", given, NONE, "seed -1", "seed -2", "seed " + LEAST);
        }
        Edges.nothing("28: as it is", Edges.RICH, 78, "seed 78");
        Edges.due("28: no ACT", Edges.on("train 9 0 0"), "seed 4", 0, "count 12", 0, "undo", -2, "count 13", 4);
    }

    private static void count() {
        for (String[] given : new String[][] {Edges.NEW, Edges.RULED, Edges.RICH, Edges.OVER}) {
            Edges.nothing("30: NONE for others", given, NONE, "count -1", "count 15", "count " + LEAST, "count " + MOST);
            for (int what = 0; what <= 14; what++) {
                Edges.asked("30: nothing changes", given, "count " + what);
            }
        }
        int[] without = {0, 0, 0, 0, 0, 0, 0, 0, 2, 1, 0, 0, 0, 5, 20};
        for (int what = 0; what <= 14; what++) {
            Edges.due("30: without a TRAIN", Edges.then(Edges.RULED, "force 1", "feed 0 0 0 0 0"), "count " + what, without[what]);
        }
        Edges.due("30: none IN FORCE", Edges.RULED, "count 9", NONE);
    }

    private static void countAtLimits() {
        String full = "train 60 3 6;hole 5" + ";person 0 0 240 0 0".repeat(8) + ";tunnel 0 0".repeat(5) + ";cold 0 0 1".repeat(5);
        String[] given = Edges.times(Edges.on(full, "rule: pull 0", "rule: pull 0", "rule: pull 0", "rule: pull 0", "rule: pull 0", "rule: pull 0"),
            10, "log 0 60");
        given = Edges.then(given, "force 5", "seed " + MOST, "tape: " + " ".repeat(400));
        int[] due = {60, 3, 6, 5, 8, 255, 5, 5, 6, 5, 0, 10, 0, MOST, 400};
        for (int what = 0; what <= 14; what++) {
            Edges.due("30: the greatest", given, "count " + what, due[what]);
        }
        Edges.due("30: the greatest", Edges.OVER, "count 10", 240, "count 12", 20);
    }

    private static void image() {
        for (String[] given : new String[][] {Edges.NEW, Edges.RULED, Edges.RICH, Edges.OVER}) {
            Edges.nothing("31: NONE without it", given, NONE, "image -1", "image 4", "image " + LEAST, "image " + MOST);
        }
        for (int k = 0; k < 4; k++) {
            Edges.due("31: the MILE", Edges.NEW, "image " + k, 0);
            Edges.due("31: the MILE", Edges.RICH, "image " + k, 3);
            Edges.due("31: the MILE", Edges.OVER, "image " + k, 240, "count 10", 240, "count 12", 20);
            Edges.alike("31: made again", Edges.then(Edges.RICH, "image " + k, "image " + k), Edges.then(Edges.RICH, "image " + k));
        }
        Edges.due("31: no ACT", Edges.on("train 9 0 0"), "image 0", 0, "count 12", 0, "undo", -2);
    }

    private static void back() {
        for (String[] given : new String[][] {Edges.NEW, Edges.RULED, Edges.RICH, Edges.OVER}) {
            Edges.nothing("32: NONE without it", given, NONE, "back -1", "back 4", "back " + LEAST, "back " + MOST);
        }
        Edges.nothing("32: never made", Edges.NEW, NONE, "back 0", "back 1", "back 2", "back 3");
        Edges.nothing("32: never made", Edges.RICH, NONE, "back 0", "back 2");
        Edges.nothing("32: never made", Edges.OVER, NONE, "back 0", "back 1", "back 3");
        for (int k = 0; k < 4; k++) {
            Edges.nothing("32: gone back to at once", Edges.then(Edges.RICH, "image " + k), 3, "back " + k);
            Edges.nothing("32: gone back to at once", Edges.then(Edges.NEW, "image " + k), 0, "back " + k);
        }
        Edges.due("32: the MILE", Edges.OVER, "back 2", 239, "count 10", 239, "mile", 443, "back 2", 239);
    }

    private static void backFromEachChange() {
        String[] changes = {"mile", "pull 0", "turn 3", "seats 0 3", "say 0 0", "undo", "log 7 7", "log -1 0", "seed 1", "force 0", "force -1", "end 0",
            OTHER, "back 1", "back 3"};
        for (int k = 0; k < 4; k += 2) {
            String[] made = Edges.then(Edges.RICH, "image " + k);
            for (String change : changes) {
                boolean tape = change.equals("end 0") || change.equals(OTHER);
                String[] due = tape ? Edges.then(made, "end 0") : made;
                Edges.alike("32: as it was, " + change, Edges.then(made, change, "back " + k), due);
                Edges.alike("32: as it was, " + change + " behind back", Edges.then(made, "back " + k, change, "back " + k), due);
            }
        }
        String[] made = Edges.then(Edges.RICH, "image 0");
        Edges.alike("32: as it was, by many changes", Edges.then(Edges.miles(Edges.then(made, "pull 0", "turn 3", "say 1 -9", "log 7 7", "seed 1", "force -1"),
            30), "seats 0 3", "undo", "undo", "back 0"), made);
        Edges.alike("32: as it was, all UNDONE", Edges.then(Edges.times(made, 10, "undo"), "pull 5", "mile", "back 0"), made);
    }

    private static void whatStays() {
        String[] made = Edges.then(Edges.RICH, "image 0");
        Edges.alike("32: the TAPE stays", Edges.then(made, "mile", "tape: pull 5", "back 0"), Edges.then(made, "tape: pull 5"));
        Edges.alike("32: RULES stay", Edges.then(made, "mile", "rule: pull 5", "back 0"), Edges.then(made, "rule: pull 5"));
        Edges.due("32: a RULE told since is IN FORCE", Edges.then(made, "rule: pull 5", "force 2"), "ahead 1 0", 5, "back 0", 3, "count 9", 1, "count 8", 3,
            "force 2", 1, "ahead 1 0", 5);
        Edges.due("32: IMAGES stay", Edges.then(Edges.RICH, "image 0", "back 1"), "count 10", 2, "image 2", 2, "back 0", 3, "back 2", 2, "back 1", 2,
            "back 3", 3);
    }

    private static void fourImages() {
        String[] given = Edges.on("train 30 1 1", "image 0", "mile", "image 1", "mile", "image 2", "mile", "image 3", "mile");
        Edges.due("each for itself", given, "back 3", 3, "back 0", 0, "back 2", 2, "back 1", 1, "count 10", 1, "back 3", 3, "count 10", 3);
        Edges.due("made anew", Edges.then(given, "image 1"), "back 0", 0, "back 1", 4, "back 2", 2, "back 3", 3);
        Edges.due("made anew behind back", Edges.then(given, "back 2", "image 0", "mile", "mile", "mile"), "back 0", 2, "back 1", 1, "back 3", 3);
    }

    private static void imagesAndUndo() {
        String[] given = Edges.miles(Edges.on("train 30 1 1"), 22);
        Edges.due("what can be UNDONE too", Edges.then(Edges.times(Edges.then(given, "image 0"), 20, "undo"), "back 0"), "count 12", 20, "count 10", 22, "undo",
            19, "count 10", 21);
        Edges.due("what can be UNDONE too: none", Edges.then(Edges.on("train 30 1 1", "image 0"), "mile", "mile", "back 0"), "count 12", 0, "undo", -2);
        String[] all = Edges.times(Edges.then(given, "image 0", "mile", "back 0"), 20, "undo");
        Edges.nothing("20 and none more", all, -2, "undo");
        Edges.due("20 and none more", all, "count 10", 2, "back 0", 22, "count 12", 20);
        Edges.due("ACTS behind back", Edges.on("train 30 1 1", "pull 1", "image 0", "pull 2", "pull 3", "back 0", "pull 4"), "count 12", 2, "undo", 1,
            "count 3", 1, "undo", 0, "count 3", 0, "undo", -2);
    }

    private static void imagesAndTrains() {
        Edges.due("from before there was a TRAIN", Edges.then(Edges.NEW, "image 0", OTHER, "mile"), "back 0", 0, "mile", NONE, "count 4", 0, "count 10", 0,
            "seat 0", -2, "person 0 0", -100, "undo", -2);
        Edges.alike("from before there was a TRAIN", Edges.then(Edges.NEW, "image 0", OTHER, "mile", "back 0"), Edges.then(Edges.NEW, "image 0"));
        Edges.due("another TRAIN", Edges.then(Edges.RICH, OTHER), "count 4", 1, "back 1", 2, "count 4", 5, "count 11", 2, "count 13", 77, "count 9", 0);
        Edges.due("to and fro", Edges.then(Edges.RICH, "image 0", OTHER, "mile", "image 2"), "back 0", 3, "count 4", 5, "back 2", 1, "count 4", 1, "undo", 0,
            "count 3", 5);
    }
}
