/** The languages of the train and of the rules: what can stand, and each fault at its place. */
public final class LanguageFaultTest {
    private static final int OK = -1;

    public static void main(String[] args) {
        trains();
        trainLimits();
        rules();
        ruleLimits();
        longTexts();
        Window.close();
    }

    private static void train(String text, int place, int kind) {
        StrapWindow w = new StrapWindow();
        int got = Window.train(w, text);
        Window.due("train \"" + text + "\"", kind == OK ? Math.min(got, 0) : got, kind == OK ? 0 : Window.fault(place, kind));
        Window.due("the TAPE behind \"" + text + "\"", w.count(14), 0);
        Window.due("TRAIN \"" + text + "\"", w.seat(0) == -2 ? 0 : 1, kind == OK ? 1 : 0);
    }

    private static void rule(String text, int place, int kind) {
        StrapWindow w = new StrapWindow();
        Window.due("rule \"" + text + "\"", Window.rule(w, text), kind == OK ? 0 : Window.fault(place, kind));
        Window.due("the TAPE behind \"" + text + "\"", w.count(14), 0);
        Window.due("RULES behind \"" + text + "\"", w.count(8), kind == OK ? 1 : 0);
    }

    private static void trains() {
        train("train 0 0 0", 0, OK);
        train("train 60 3 6", 0, OK);
        train("  train  00060   3 6  ", 0, OK);
        train("train60 3 6;hole5;person7 239 240 60 20;front0;says0 18;tunnel239 239;cold239 239 4", 0, OK);
        train("train 0 0 0 ; hole 0 ; person 0 0 1 0 0 ; front 0 ; front 0 ; says 0 0 ; says 0 9 ; tunnel 0 0 ; cold 0 0 1", 0, OK);
        train("", 0, 0);
        train("   ", 3, 0);
        train("train", 5, 0);
        train("train 1 2 ", 10, 0);
        train("train 1 2;", 9, 0);
        train("train 1 2 3;", 12, 0);
        train("train 1 2 3;  ", 14, 0);
        train("train 1 2 3;;hole 1", 12, 0);
        train(";train 1 2 3", 0, 0);
        train("Train 1 2 3", 0, 0);
        train("trainhole 1 2 3", 0, 0);
        train("trai n 1 2 3", 0, 0);
        train("train 1 2 3 4", 12, 0);
        train("train 1 2 3 hole", 12, 0);
        train("train 1 2 3;pull 1", 12, 0);
        train("train 1 hole 3", 8, 0);
        train("train 1 -2 3", 8, 0);
        train("train\t1 2 3", 5, 0);
        train("train 1\0002 3", 7, 0);
        train("train 1 2 3\377", 11, 0);
        train("train \377 2 3", 6, 0);
        train("\377", 0, 0);
        train("train 000060 3 6", 6, 1);
        train("train 61 3 6", 6, 1);
        train("train 99999 3 6", 6, 1);
        train("train 100000 3 6", 6, 1);
        train("train 999999999999999999999 3 6", 6, 1);
        train("train 1 2 3 999999", 12, 0);
        train("train 1 2 3;hole 6", 17, 1);
        train("train 1 2 3;person 0 240 240 0 0", 21, 1);
        train("train 1 2 3;person 0 0 0 0 0", 23, 1);
        train("train 1 2 3;person 0 0 241 0 0", 23, 1);
        train("train 1 2 3;person 0 0 1 61 0", 25, 1);
        train("train 1 2 3;person 0 0 1 0 21", 27, 1);
        train("train 1 2 3;person 0 0 1 0", 26, 0);
        train("train 1 2 3;front 0;person 0 0 1 0 0", 18, 1);
        train("train 1 2 3;person 0 0 1 0 0;front 1", 35, 1);
        train("train 1 2 3;person 0 0 1 0 0;says 1 9", 34, 1);
        train("train 1 2 3;person 0 0 1 0 0;says 0 19", 36, 1);
        train("train 1 2 3;tunnel 240 240", 19, 1);
        train("train 1 2 3;tunnel 3 2", 21, 1);
        train("train 1 2 3;tunnel 3 240", 21, 1);
        train("train 1 2 3;cold 240 240 1", 17, 1);
        train("train 1 2 3;cold 3 240 1", 19, 1);
        train("train 1 2 3;cold 3 2 1", 19, 1);
        train("train 1 2 3;cold 3 3 0", 21, 1);
        train("train 1 2 3;cold 3 3 5", 21, 1);
    }

    private static String times(String text, int n, String between) {
        StringBuilder all = new StringBuilder();
        for (int i = 0; i < n; i++) {
            all.append(i == 0 ? "" : between).append(text);
        }
        return all.toString();
    }

    private static void trainLimits() {
        train("hole 1;train 1 2 3", 0, 4);
        train(" cold x", 1, 4);
        train("train 1 2 3;train 1 2 3", 12, 4);
        train("train 1 2 3;hole 1; hole 1", 20, 4);
        train("train 1 2 3;hole 1; hole x", 20, 4);
        String people = "train 1 2 3;" + times("person 0 0 9 9 9", 8, ";");
        train(people, 0, OK);
        train(people + ";person 0 0 9 9 9", people.length() + 1, 4);
        train(people + ";person", people.length() + 1, 4);
        String tunnels = "train 1 2 3;" + times("tunnel 0 9", 5, ";");
        train(tunnels, 0, OK);
        train(tunnels + ";tunnel 0 9", tunnels.length() + 1, 4);
        String colds = "train 1 2 3;" + times("cold 0 9 4", 5, ";");
        train(colds, 0, OK);
        train(colds + ";cold 0 9 4", colds.length() + 1, 4);
        train(tunnels + ";" + times("cold 0 9 4", 5, ";"), 0, OK);
        String forty = "train 1 2 3;person 0 0 9 9 9;" + times("front 0", 38, ";");
        train(forty, 0, OK);
        train(forty + ";front 0", forty.length() + 1, 4);
        train(forty + ";frond 0", forty.length() + 1, 0);
        train(forty + ";", forty.length() + 1, 0);
        train(forty + ";front", forty.length() + 1, 4);
        StrapWindow w = Window.on(people);
        Window.due("PEOPLE", w.count(4), 8);
        w = Window.on(tunnels + ";" + times("cold 0 9 4", 5, ";"));
        Window.due("TUNNELS", w.count(6), 5);
        Window.due("COLDS", w.count(7), 5);
        Window.due("COLD of several", w.stretch(9, 1), 20);
    }

    private static void rules() {
        rule("pull 1", 0, OK);
        rule("pull1", 0, OK);
        rule("  pull  99999  ", 0, OK);
        rule("pull hole+warm-mile*tunnel/soon%window if middle<most and more<=less or people=cross and knob>=0 or 1>0", 0, OK);
        rule("pull 1if not[1=1]and not not 2>1or[[1<2]];pull 2", 0, OK);
        rule("pull 1;pull 2", 0, OK);
        rule("", 0, 0);
        rule("  ", 2, 0);
        rule("pull", 4, 0);
        rule("pull ;", 5, 0);
        rule("pull 1;", 7, 0);
        rule("pull 1; ", 8, 0);
        rule("pull 1 2", 7, 0);
        rule("pull 1 + ", 9, 0);
        rule("pull -1", 5, 0);
        rule("pull [1]", 5, 0);
        rule("pull 1++1", 7, 0);
        rule("pull 1 pull 2", 7, 0);
        rule("pull if", 5, 0);
        rule("pull and", 5, 0);
        rule("pull not", 5, 0);
        rule("pull pull", 5, 0);
        rule("pull holes", 5, 0);
        rule("pull hol", 5, 0);
        rule("pull hole1", 9, 0);
        rule("pull 1hole", 6, 0);
        rule("push 1", 0, 0);
        rule("pull 1 if", 9, 0);
        rule("pull 1 if 1", 11, 0);
        rule("pull 1 if 1;", 11, 0);
        rule("pull 1 if 1=", 12, 0);
        rule("pull 1 if 1==1", 12, 0);
        rule("pull 1 if 1< =1", 13, 0);
        rule("pull 1 if 1=<1", 12, 0);
        rule("pull 1 if 1<<1", 12, 0);
        rule("pull 1 if 1<>1", 12, 0);
        rule("pull 1 if 1<==1", 13, 0);
        rule("pull 1 if 1=1=1", 13, 0);
        rule("pull 1 if [1=1", 14, 0);
        rule("pull 1 if 1=1]", 13, 0);
        rule("pull 1 if []", 11, 0);
        rule("pull 1 if [1]=1", 12, 0);
        rule("pull 1 if 1=[1]", 12, 0);
        rule("pull 1 if not", 13, 0);
        rule("pull 1 if not;", 13, 0);
        rule("pull 1 if 1=1 and", 17, 0);
        rule("pull 1 if 1=1 or", 16, 0);
        rule("pull 1 if 1=1 or or 1=1", 17, 0);
        rule("pull 1 if 1=1 if 1=1", 14, 0);
        rule("pull 1 if 1=1 1=1", 14, 0);
        rule("pull 1 if notwarm=1", 10, 0);
        rule("pull 1 if or=1", 10, 0);
        rule("pull 1!", 6, 0);
        rule("pull 1\377", 6, 0);
        rule("pull \377", 5, 0);
        rule("pull 1\n", 6, 0);
        rule("Pull 1", 0, 0);
        rule("train 1 2 3", 0, 0);
        rule("pull 100000", 5, 1);
        rule("pull 000000", 5, 1);
        rule("pull 1 if 1=999999", 12, 1);
        rule("pull 1 if 1 999999", 12, 0);
    }

    private static void ruleLimits() {
        rule("pull 1 if " + times("[", 10, "") + "1=1" + times("]", 10, ""), 0, OK);
        rule("pull 1 if " + times("[", 11, "") + "1=1" + times("]", 11, ""), 20, 2);
        rule("pull 1 if " + times("not ", 10, "") + "1=1", 0, OK);
        rule("pull 1 if " + times("not ", 11, "") + "1=1", 50, 2);
        rule("pull 1 if " + times("not [", 5, "") + "1=1" + times("]", 5, ""), 0, OK);
        rule("pull 1 if " + times("not [", 5, "") + "not 1=1" + times("]", 5, ""), 35, 2);
        rule("pull 1 if " + times("not [", 5, "") + "[1=1" + times("]", 6, ""), 35, 2);
        rule("pull 1 if " + times("[", 10, "") + "1=1" + times("]", 10, "") + " and " + times("[", 10, "") + "1=1"
            + times("]", 10, ""), 0, OK);
        rule("pull 1 if " + times("[", 9, "") + "[1=1] or not 1=1 or not [1=1]" + times("]", 9, ""), 43, 2);
        rule("pull " + times("1", 60, "+"), 0, OK);
        rule("pull " + times("1", 61, "+"), 125, 3);
        rule("pull " + times("1", 60, "+") + "+knob", 125, 3);
        rule("pull " + times("1", 60, "+") + "+knobs", 125, 0);
        rule("pull " + times("1", 60, "+") + "+123456", 125, 1);
        rule("pull " + times("1", 60, "+") + "+", 125, 0);
        rule("pull " + times("1", 60, "+") + "/;", 125, 0);
        // 57, then a VALUE, a SIGN and a VALUE make 60
        rule("pull " + times("1", 57, "+") + " if 1=1", 0, OK);
        rule("pull " + times("1", 58, "+") + " if 1=1", 126, 3);
        rule("pull " + times("1", 59, "+") + " if 1>=1", 127, 3);
        rule("pull " + times("1", 59, "+") + " if 1;", 127, 0);
        rule("pull " + times("1", 60, "+") + " if 1=1", 128, 3);
        rule("pull " + times("1", 60, "+") + " if [1=1]", 129, 3);
        // of all CLAUSES together
        rule("pull " + times("1", 30, "+") + ";pull " + times("1", 30, "+"), 0, OK);
        rule("pull " + times("1", 30, "+") + ";pull " + times("1", 31, "+"), 130, 3);
        rule(times("pull 1", 12, ";"), 0, OK);
        rule(times("pull 1", 13, ";"), 84, 4);
        rule(times("pull 1", 12, ";") + ";", 84, 0);
        rule(times("pull 1", 12, ";") + "; pulls", 85, 0);
        rule(times("pull 1", 12, ";") + "; pull", 85, 4);
    }

    private static void longTexts() {
        String train = "train 1 2 3";
        train(train + times(" ", 400 - train.length(), ""), 0, OK);
        train(train + times(" ", 399 - train.length(), "") + ";", 400, 0);
        train(train + times(" ", 399 - train.length(), "") + "x", 399, 0);
        rule(times(" ", 394, "") + "pull 1", 0, OK);
        rule(times(" ", 396, "") + "pull", 400, 0);
        rule("pull 1 if " + times("not ", 90, ""), 50, 2);
        rule(times("x", 400, ""), 0, 0);
        rule("pull " + times("9", 395, ""), 5, 1);
        rule(times(";", 400, ""), 0, 0);
    }
}
