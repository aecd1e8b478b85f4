/** What rules come to: each word, each sign, what binds closer, and 64 bits. */
public final class RuleTest {
    public static void main(String[] args) {
        words();
        wordsWithoutAnybody();
        soon();
        sums();
        tests();
        clauses();
        Window.close();
    }

    private static void comesTo(String train, String value, int want) {
        // the value is asked for as a test, since the hole itself is held to 0 to 5
        StrapWindow w = Window.on(train, "pull 5 if " + value + "=0" + (want < 0 ? "-" + -want : "+" + want) + ";pull 0");
        Window.due(value + " in " + train, w.comes(0, 1, 0) >= 0 ? lawHole(w) : -1, 5);
    }

    private static int lawHole(StrapWindow w) {
        w.force(0);
        return w.ahead(1, 0);
    }

    private static void words() {
        // wants: 0 by the window 3; 1 (SEAT 1, AIR 3) 1; 2 (SEAT 2, AIR 2) 1; 3 (SEAT 7) 0; 4 gets in later
        String train = "train 33 2 1;hole 1;person 0 0 9 20 12;person 1 0 9 20 3;person 2 0 9 20 2;person 7 0 9 20 9;"
            + "person 4 7 9 20 15;tunnel 0 2;tunnel 5 9;tunnel 3 3";
        comesTo(train, "hole", 1);
        comesTo(train, "warm", 33);
        comesTo(train, "mile", 0);
        comesTo(train, "tunnel", 1);
        comesTo(train, "soon", 3);
        comesTo(train, "window", 3);
        comesTo(train, "middle", 1);
        comesTo(train, "most", 1);
        comesTo(train, "more", 1);
        comesTo(train, "less", 1);
        comesTo(train, "people", 4);
        comesTo(train, "cross", 0);
        comesTo(train, "knob", 2);
        // of two the lower one, of several as many the least
        String two = "train 20 0 0;hole 3;person 0 0 9 20 20;person 4 0 9 20 6";
        comesTo(two, "middle", 2);
        comesTo(two, "most", 2);
        comesTo(two, "window", 5);
        String four = "train 20 0 0;person 3 0 9 20 1;person 2 0 9 20 4;person 1 0 9 20 9;person 0 0 9 20 16";
        comesTo(four, "middle", 2);
        comesTo(four, "most", 1);
        comesTo(four, "more", 4);
        comesTo(four, "less", 0);
        // nobody by the window; who stands wants 0
        String standing = "train 20 0 0;hole 2;person 1 0 9 20 15;person 1 0 9 20 15;person 1 0 9 20 15;person 1 0 9 20 15;"
            + "person 0 0 9 20 15;front 0;front 1;front 2;front 3;front 4";
        comesTo(standing, "less", 1);
        comesTo(standing, "people", 5);
        comesTo("train 20 0 0;person 1 0 9 20 15", "window", -1);
        crossAndMile();
    }

    private static void crossAndMile() {
        StrapWindow w = Window.on("train 20 0 0;person 0 0 3 20 20;person 3 0 9 20 1;person 7 0 9 20 0",
            "pull cross if mile=2;pull 1 if mile=3;pull 5 if cross=3 and mile=4;pull 0");
        w.mile();
        w.mile();
        w.force(0);
        w.mile();
        Window.due("cross", w.count(3), 2);
        Window.due("mile", w.ahead(1, 0), 1);
        // 0 is out; 1 was 3 cross and is 2 by HOLE 1; 2 is 2 cross by HOLES 2 and 1
        w.mile();
        Window.due("cross of 1", w.person(1, 4), 2);
        Window.due("cross of 2", w.person(2, 4), 2);
        Window.due("of those aboard", w.ahead(1, 0), 0);
        comesTo("train 20 0 0;person 0 3 9 20 20", "cross", 0);
    }

    private static void wordsWithoutAnybody() {
        String train = "train 20 0 0;hole 4;person 0 3 9 20 20";
        comesTo(train, "window", -1);
        comesTo(train, "middle", 4);
        comesTo(train, "most", 4);
        comesTo(train, "more", 0);
        comesTo(train, "less", 0);
        comesTo(train, "people", 0);
        comesTo(train, "cross", 0);
    }

    private static void soon() {
        comesTo("train 20 0 0", "soon", 99);
        comesTo("train 20 0 0;tunnel 0 9", "soon", 99);
        comesTo("train 20 0 0;tunnel 1 1", "soon", 1);
        comesTo("train 20 0 0;tunnel 9 9;tunnel 4 239", "soon", 4);
        comesTo("train 20 0 0;tunnel 239 239", "soon", 239);
        comesTo("train 20 0 0;tunnel 0 1;tunnel 0 2;tunnel 9 9;tunnel 8 9;tunnel 7 9", "soon", 7);
        comesTo("train 20 0 0;tunnel 0 9", "tunnel", 1);
        comesTo("train 20 0 0;tunnel 1 9", "tunnel", 0);
    }

    private static void sums() {
        String train = "train 20 0 0;hole 3";
        comesTo(train, "1+2*3", 7);
        comesTo(train, "2*3+1", 7);
        comesTo(train, "1+2*3-4*2+5", 4);
        comesTo(train, "9-3-2", 4);
        comesTo(train, "24/4/2", 3);
        comesTo(train, "24/4*2", 12);
        comesTo(train, "7%4*3", 9);
        comesTo(train, "7*3%4", 1);
        comesTo(train, "1-7/2", -2);
        comesTo(train, "window*7/2", -3);
        comesTo(train, "window*7%4", -3);
        comesTo(train, "7%window", 0);
        comesTo(train, "5/0", 0);
        comesTo(train, "5%0", 0);
        comesTo(train, "5/mile+1", 1);
        comesTo(train, "00007+hole", 10);
        comesTo(train, "99999*99999/99999", 99999);
        // 65536 four times over is 2 to the 64th
        comesTo(train, "65536*65536*65536*65536", 0);
        comesTo(train, "65536*65536*65536*32768/65536/65536/65536", -32768);
        comesTo(train, "65536*65536*65536*32768/window/65536/65536/65536", -32768);
        comesTo(train, "65536*65536*65536*32768%window", 0);
        held("pull 65536*65536*65536*32768", 0);
        held("pull 65536*65536*65536*32768-1", 5);
        held("pull 65536*65536", 5);
        held("pull 65536*65536+3", 5);
        held("pull 0-1", 0);
        held("pull 6", 5);
        held("pull 5", 5);
        held("pull 0", 0);
        held("pull 4", 4);
    }

    private static void held(String rule, int want) {
        Window.due(rule, lawHole(Window.on("train 20 0 0;hole 3", rule)), want);
    }

    private static void holds(String test, boolean want) {
        Window.due(test, lawHole(Window.on("train 20 0 0;hole 3", "pull 1 if " + test)), want ? 1 : 3);
    }

    private static void tests() {
        String[] signs = {"<", "<=", "=", ">=", ">"};
        for (int i = 0; i < 5; i++) {
            holds("1" + signs[i] + "2", i < 2);
            holds("2" + signs[i] + "2", i >= 1 && i <= 3);
            holds("3" + signs[i] + "2", i > 2);
        }
        holds("window<0", true);
        holds("1=1 or 1=1 and 1=2", true);
        holds("1=2 and 1=1 or 1=1", true);
        holds("[1=1 or 1=1] and 1=2", false);
        holds("1=2 and [1=1 or 1=1]", false);
        holds("1=2 or 1=2 or 1=1", true);
        holds("1=2 or 1=1 or 1=2", true);
        holds("1=2 or 1=2 or 1=2", false);
        holds("1=1 and 1=1 and 1=2", false);
        holds("1=1 and 1=1 and 1=1", true);
        holds("not 1=2", true);
        holds("not 1=1", false);
        holds("not not 1=1", true);
        holds("not 1=1 or 1=1", true);
        holds("not 1=2 and 1=2", false);
        holds("not [1=2 and 1=2]", true);
        holds("1=2 or not [1=1 and not [2=2 or 1=2]]", true);
        holds("[[[[[[[[[[1=1]]]]]]]]]]", true);
        holds("1=2 or [1=2 or [1=2 or [1=2 or [1=2 or [1=2 or [1=2 or [1=2 or [1=2 or [1=2 or [1=1]]]]]]]]]]", true);
        holds("1=1 and [1=2 or 1=1 and [1=2 or 1=1 and [1=2 or 1=1 and [1=2 or 1=1 and not 1+2*3=7]]]]", false);
        holds("1=1 and [1=2 or 1=1 and [1=2 or 1=1 and [1=2 or 1=1 and [1=2 or 1=1 and not 1+2*3=8]]]]", true);
    }

    private static void clauses() {
        held("pull 1 if hole=2;pull 2 if hole=3;pull 4", 2);
        held("pull 1 if hole=2;pull 2 if hole=1;pull 4", 4);
        held("pull 1 if hole=2;pull 2 if hole=1", 3);
        held("pull 1;pull 2", 1);
        held("pull 5 if 1=2;pull 5 if 1=2;pull 5 if 1=2;pull 5 if 1=2;pull 5 if 1=2;pull 5 if 1=2;pull 5 if 1=2;pull 5 if 1=2;"
            + "pull 5 if 1=2;pull 5 if 1=2;pull 5 if 1=2;pull 2", 2);
    }
}
