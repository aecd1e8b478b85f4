/** The boundary cases of the rules' language and of what rules come to: promises 5 and 6, and part I of the terms. */
public final class EdgeRuleTest {
    private static final int NONE = StrapWindow.NONE;
    private static final String[] WORDS = {"hole", "warm", "mile", "tunnel", "soon", "window", "middle", "most", "more", "less",
        "people", "cross", "knob"};

    public static void main(String[] args) {
        sixRules();
        force();
        clauses();
        numbers();
        wordsThatStand();
        bytes();
        ends();
        depth();
        valuesAndFacts();
        leastOfOnePlace();
        held();
        reckoning();
        tunnelAndSoon();
        window();
        middleAndMost();
        moreAndLess();
        peopleCrossKnob();
        Window.close();
    }

    private static void taken(String sentence, String text) {
        String said = sentence + ", \"" + text + "\"";
        Edges.due(said, Edges.NEW, "rule: " + text, 0, "count 8", 1, "count 14", 0);
        Edges.due(said, Edges.RICH, "rule: " + text, 2, "count 8", 3, "count 14", 0);
    }

    /** A rule that has this fault: the tape is empty then, and all else stays. */
    private static void fault(String sentence, String text, int place, int kind) {
        String said = sentence + ", \"" + text + "\"";
        Edges.due(said, Edges.NEW, "rule: " + text, Window.fault(place, kind), "count 8", 0, "count 14", 0);
        Window.due(said, Script.of(Edges.RICH).make("rule: " + text), Window.fault(place, kind));
        Edges.alike(said, Edges.then(Edges.RICH, "rule: " + text), Edges.then(Edges.RICH, "end 0"));
    }

    private static void sixRules() {
        String[] six = {"rule: pull 0", "rule: pull 1", "rule: pull 2", "rule: pull 3", "rule: pull 4", "rule: pull 5",
            "train: train 9 0 0"};
        for (int i = 0; i < 6; i++) {
            Window.due("5: its number", Script.of(java.util.Arrays.copyOf(six, i)).make(six[i]), i);
            Edges.due("5: each is kept", six, "force " + i, NONE, "ahead 1 0", i);
        }
        Edges.nothing("5: there are 6, the TAPE stays", Edges.then(six, "tape: pull 1"), NONE, "rule");
        Edges.nothing("5: there are 6, the TAPE stays", Edges.then(six, "tape: pall 1"), NONE, "rule");
        Edges.nothing("5: there are 6, the TAPE stays", Edges.then(six, "tape: train 1 1 1"), NONE, "rule");
        Edges.nothing("5: there are 6", six, NONE, "rule");
        Edges.due("5: a fault takes no number", Edges.NEW, "rule: pull", Window.fault(4, 0), "rule: pull 1", 0, "rule: pull 1;",
            Window.fault(7, 0), "rule: pull 1", 1, "count 8", 2);
        Edges.due("5: by back they stay", Edges.then(Edges.NEW, "image 0", "rule: pull 1"), "back 0", 0, "count 8", 1, "force 0", NONE);
    }

    private static void force() {
        Edges.due("6: which was", Edges.RULED, "force 1", NONE, "force 0", 1, "force 0", 0, "force -1", 0, "force -1", NONE);
        Edges.nothing("6: none such", Edges.RULED, -2, "force 2", "force 6", "force -2", "force " + Edges.MOST, "force " + Edges.LEAST);
        Edges.nothing("6: none such", Edges.RICH, -2, "force 2", "force 5", "force -2");
        Edges.nothing("6: none such", Edges.NEW, -2, "force 0", "force 1", "force -2");
        Edges.due("6: no ACT", Edges.on("train 9 0 0", "rule: pull 1"), "force 0", NONE, "count 12", 0, "undo", -2, "count 9", 0);
    }

    private static void clauses() {
        taken("12 CLAUSES at most", "pull 1" + ";pull 1".repeat(11));
        fault("one CLAUSE too many", "pull 1" + ";pull 1".repeat(12), 84, 4);
        fault("one CLAUSE too many, at its first byte", "pull 1" + ";pull 1".repeat(11) + ";  pull", 86, 4);
        fault("nothing behind the sign", "pull 1;", 7, 0);
        fault("nothing behind the sign", "pull 1" + ";pull 1".repeat(11) + ";", 84, 0);
        fault("nothing between two signs", "pull 1;;pull 1", 7, 0);
        fault("nothing ahead of the sign", ";pull 1", 0, 0);
        hole("the twelfth CLAUSE counts", "train 9 0 0", "pull 1 if 1=2" + ";pull 1 if 1=2".repeat(10) + ";pull 4", 4);
    }

    private static void numbers() {
        taken("1 digit", "pull 0");
        taken("5 digits", "pull 99999");
        taken("5 digits", "pull 00000");
        fault("6 digits", "pull 100000", 5, 1);
        fault("6 digits", "pull 000000", 5, 1);
        fault("as far as digits go on", "pull " + "9".repeat(395), 5, 1);
        fault("6 digits in a SUM", "pull 1*123456", 7, 1);
        fault("6 digits in a TEST", "pull 1 if 123456=1", 10, 1);
        fault("6 digits in a TEST", "pull 1 if 1=123456", 12, 1);
        value("5 digits", Edges.on("train 9 0 0"), "99999", 99999);
        value("zeros ahead", Edges.on("train 9 0 0"), "00012", 12);
    }

    private static void wordsThatStand() {
        for (String word : WORDS) {
            taken("a WORD", "pull " + word);
            taken("a WORD", "pull " + word + "+" + word + " if " + word + "=" + word);
            fault("as far as small letters go on", "pull " + word + "s", 5, 0);
            fault("as far as small letters go on", "pull " + word.substring(0, word.length() - 1), 5, 0);
            fault("small letters", "pull " + word.toUpperCase(), 5, 0);
            fault("two VALUES", "pull " + word + " 1", 6 + word.length(), 0);
            fault("in place of pull", word + " 1", 0, 0);
        }
        for (String word : new String[] {"pull", "if", "or", "and", "not", "train", "person", "x", "knobhole"}) {
            fault("a WORD that can't stand there", "pull " + word, 5, 0);
            fault("a WORD that can't stand there", "pull 1+" + word, 7, 0);
            if (!word.equals("not")) {
                fault("a WORD that can't stand there", "pull 1 if " + word, 10, 0);
                fault("a WORD that can't stand there", "pull 1 if [" + word, 11, 0);
            }
            fault("a WORD that can't stand there", "pull 1 if 1=" + word, 12, 0);
            if (!word.equals("if")) {
                fault("a WORD that can't stand there", "pull 1 " + word + " 1=1", 7, 0);
            }
            if (!word.equals("or") && !word.equals("and")) {
                fault("a WORD that can't stand there", "pull 1 if 1=1 " + word + " 1=1", 14, 0);
            }
        }
    }

    private static int answerTo(String text) {
        return Script.of(Edges.NEW).make("rule: " + text);
    }

    private static void bytes() {
        for (int b = 0; b < 256; b++) {
            char sign = (char) b;
            boolean digit = b >= '0' && b <= '9';
            boolean reckons = "+-*/%".indexOf(sign) >= 0;
            boolean compares = "<=>".indexOf(sign) >= 0;
            boolean fine = b == ' ' || digit;
            Window.due("byte " + b + " behind a SUM", answerTo("pull 1" + sign),
                fine ? 0 : reckons || b == ';' ? Window.fault(7, 0) : Window.fault(6, 0));
            Window.due("byte " + b + " ahead of pull", answerTo(sign + "pull 1"), b == ' ' ? 0 : Window.fault(0, 0));
            Window.due("byte " + b + " behind a TEST's first SUM", answerTo("pull 1 if 1" + sign),
                fine || compares || reckons ? Window.fault(12, 0) : Window.fault(11, 0));
            Window.due("byte " + b + " behind a FACT", answerTo("pull 1 if 1=1" + sign),
                fine ? 0 : reckons || b == ';' ? Window.fault(14, 0) : Window.fault(13, 0));
            Window.due("byte " + b + " behind <", answerTo("pull 1 if 1<" + sign),
                digit ? 0 : b == '=' || b == ' ' ? Window.fault(13, 0) : Window.fault(12, 0));
            Window.due("byte " + b + " behind >", answerTo("pull 1 if 1>" + sign),
                digit ? 0 : b == '=' || b == ' ' ? Window.fault(13, 0) : Window.fault(12, 0));
            Window.due("byte " + b + " behind =", answerTo("pull 1 if 1=" + sign),
                digit ? 0 : b == ' ' ? Window.fault(13, 0) : Window.fault(12, 0));
            Window.due("byte " + b + " behind [", answerTo("pull 1 if [" + sign),
                fine || b == '[' ? Window.fault(12, 0) : Window.fault(11, 0));
            Window.due("byte " + b + " for ]", answerTo("pull 1 if [1=1" + sign),
                b == ']' ? 0 : fine || reckons ? Window.fault(15, 0) : Window.fault(14, 0));
        }
        taken("Blanks stand between as one likes", "  pull  1  +  2  if  not  [  1  <=  2  ]  ;  pull  3  ");
        taken("Blanks stand between as one likes", "pull1+2if not[1<=2]and 2>=1or 1=1;pull3");
        fault("Blanks do not stand within a sign", "pull 1 if 1< =1", 13, 0);
        fault("Blanks do not stand within a sign", "pull 1 if 1> =1", 13, 0);
        fault("Blanks do not stand within a WORD", "pu ll 1", 0, 0);
        fault("no such sign", "pull 1 if 1=<1", 12, 0);
        fault("no such sign", "pull 1 if 1<>1", 12, 0);
    }

    private static void ends() {
        fault("the end, of an empty text", "", 0, 0);
        fault("the end, behind the last byte", "   ", 3, 0);
        fault("the end, behind the last byte", " ".repeat(400), 400, 0);
        fault("the end, behind the last byte", "pull", 4, 0);
        fault("the end, behind the last byte", "pull  ", 6, 0);
        fault("the end, behind the last byte", "pull 1+", 7, 0);
        fault("the end, behind the last byte", "pull 1 if", 9, 0);
        fault("the end, behind the last byte", "pull 1 if 1", 11, 0);
        fault("the end, behind the last byte", "pull 1 if 1=", 12, 0);
        fault("the end, behind the last byte", "pull 1 if 1=1 and ", 18, 0);
        fault("the end, behind the last byte", "pull 1 if 1=1 or", 16, 0);
        fault("the end, behind the last byte", "pull 1 if not", 13, 0);
        fault("the end, behind the last byte", "pull 1 if [", 11, 0);
        fault("the end, behind the last byte", "pull 1 if [1=1", 14, 0);
        fault("the end, behind the last byte", " ".repeat(396) + "pull", 400, 0);
        fault("the last byte", "pull 1" + " ".repeat(393) + "!", 399, 0);
        taken("a text of 400 bytes", "pull 1" + " ".repeat(394));
        taken("a text of 400 bytes", " ".repeat(394) + "pull 1");
        fault("the first along the text", "pull 123456 if 1;pull", 5, 1);
        fault("the first along the text", "pull 1 if 1 123456", 12, 0);
    }

    private static void deep(String openings, int place) {
        StringBuilder closing = new StringBuilder();
        for (int i = 0; i < openings.length(); i++) {
            closing.append(openings.charAt(i) == '[' ? "]" : "");
        }
        String text = "pull 1 if " + openings + "1=1" + closing;
        if (place < 0) {
            taken("10 deep at most", text);
        } else {
            fault("too deep, at the sign that opens or the word not", text, place, 2);
        }
    }

    private static void depth() {
        deep("[".repeat(10), -1);
        deep("[".repeat(11), 20);
        deep("[".repeat(100), 20);
        deep("not ".repeat(10), -1);
        deep("not ".repeat(11), 50);
        deep("not ".repeat(90), 50);
        deep("not[".repeat(5), -1);
        deep("not[".repeat(5) + "[", 30);
        deep("not[".repeat(5) + "not ", 30);
        deep("[not ".repeat(5), -1);
        deep("[not ".repeat(5) + "[", 35);
        deep("[".repeat(9) + "not ", -1);
        deep("[".repeat(10) + " not ", 21);
        deep("not ".repeat(9) + "[", -1);
        deep("not ".repeat(10) + "[", 50);
        String ten = "[".repeat(10) + "1=1" + "]".repeat(10);
        taken("within one another: not side by side", "pull 1 if " + ten + " and " + ten + " or not 1=1;pull 1 if " + ten);
        taken("within one another: not side by side", "pull 1 if " + "not 1=1 and ".repeat(11) + "[1=1]");
        hole("10 deep", "train 9 0 0", "pull 4 if " + ten, 4);
        hole("10 deep", "train 9 0 0", "pull 4 if " + "not ".repeat(10) + "1=1", 4);
        hole("9 deep", "train 9 0 0", "pull 4 if " + "not ".repeat(9) + "1=1;pull 3", 3);
    }

    private static String ones(int n) {
        return "1" + "+1".repeat(n - 1);
    }

    private static void valuesAndFacts() {
        taken("60 VALUES at most", "pull " + ones(60));
        fault("one VALUE too many, at its first byte", "pull " + ones(61), 125, 3);
        fault("one VALUE too many, at its first byte", "pull " + ones(60) + "+ knob", 126, 3);
        fault("one VALUE too many, at its first byte", "pull " + ones(60) + "+99999", 125, 3);
        taken("57 VALUES, then two and a FACT", "pull " + ones(57) + " if 1=1");
        fault("58, 1, a FACT, and a VALUE", "pull " + ones(58) + " if 1=1", 126, 3);
        fault("59, 1, and a FACT, at its SIGN", "pull " + ones(59) + " if 1 <= 1", 128, 3);
        fault("60, and a VALUE of a FACT", "pull " + ones(60) + " if 1=1", 128, 3);
        taken("FACTS made of a SIGN alone", "pull " + ones(57) + " if not [[not 1=1]]");
        taken("19 FACTS with 2 VALUES each, and 3", "pull 1+1+1 if 1=1" + " or 1=1".repeat(18));
        fault("20 FACTS with 2 VALUES each, and 1", "pull 1 if 1=1" + " or 1=1".repeat(19), 10 + 7 * 19 + 2, 3);
        taken("together, of all CLAUSES", "pull " + ones(30) + ";pull " + ones(30));
        fault("together, of all CLAUSES", "pull " + ones(30) + ";pull " + ones(31), 130, 3);
        taken("each RULE for itself", "pull " + ones(60));
        hole("60 VALUES count", "train 9 0 0", "pull " + ones(60), 5);
        hole("60 VALUES count", "train 9 0 0", "pull 1" + "-1+1".repeat(29) + "+1", 2);
    }

    private static void leastOfOnePlace() {
        String full = "pull " + ones(60);
        fault("a NUMBER of 6 digits, and a VALUE too many", full + "+123456", 125, 1);
        fault("a WORD that can't stand, and a VALUE too many", full + "+knobs", 125, 0);
        fault("the end, where a VALUE would be too many", full + "+", 125, 0);
        fault("no SIGN, where a FACT would be too many", "pull " + ones(59) + " if 1;", 127, 0);
        fault("no pull, where a CLAUSE would be too many", "pull 1" + ";pull 1".repeat(11) + ";push 1", 84, 0);
        fault("too deep, where what follows can't stand", "pull 1 if " + "[".repeat(11), 20, 2);
    }

    /** By this rule alone the hole of the first mile is this one. */
    private static void hole(String sentence, String train, String rule, int want) {
        Edges.due(sentence + ", \"" + rule + "\"", Edges.on(train, "rule: " + rule, "force 0"), "ahead 1 0", want);
    }

    private static void held() {
        String train = "train 9 0 0;hole 3";
        hole("held to 0 to 5", train, "pull 0", 0);
        hole("held to 0 to 5", train, "pull 5", 5);
        hole("held to 0 to 5: above", train, "pull 6", 5);
        hole("held to 0 to 5: below", train, "pull 0-1", 0);
        hole("held to 0 to 5: far above", train, "pull 99999*99999", 5);
        hole("held to 0 to 5: far below", train, "pull 0-99999*99999", 0);
        // 4294967296 is 2 to the 32nd: as an int it would be 0
        hole("held to 0 to 5: beyond 32 bits", train, "pull 65536*65536", 5);
        hole("held to 0 to 5: beyond 32 bits", train, "pull 0-65536*65536+2", 0);
        hole("the first CLAUSE without a TEST", train, "pull 1;pull 2", 1);
        hole("the first CLAUSE whose TEST holds", train, "pull 1 if 1=2;pull 2 if 1=1;pull 4", 2);
        hole("the HOLE stays without", train, "pull 1 if 1=2;pull 2 if 2=1", 3);
        String[] signs = {"<", "<=", "=", ">=", ">"};
        for (int i = 0; i < 5; i++) {
            hole("a TEST that holds: below", train, "pull 1 if 1" + signs[i] + "2;pull 2", i < 2 ? 1 : 2);
            hole("a TEST that holds: at", train, "pull 1 if 2" + signs[i] + "2;pull 2", i >= 1 && i <= 3 ? 1 : 2);
            hole("a TEST that holds: above", train, "pull 1 if 3" + signs[i] + "2;pull 2", i > 2 ? 1 : 2);
        }
        Edges.due("without a RULE it stays", Edges.on(train, "rule: pull 1"), "ahead 1 0", 3);
        // 9223372036854775807, the greatest there is
        String greatest = "92233*10000*10000*10000*100+72036*10000*10000*10+85477*10000+5807";
        hole("goes round in 64 bits: the greatest", train, "pull " + greatest, 5);
        hole("goes round in 64 bits: one more", train, "pull " + greatest + "+1", 0);
        hole("goes round in 64 bits: one more and one less", train, "pull " + greatest + "+1-1", 5);
    }

    /** In the next mile of this ride the value is so much. */
    private static void value(String sentence, String[] given, String value, int want) {
        String number = want < 0 ? "0-" + -want : "" + want;
        String[] ride = Edges.then(given, "rule: pull 5 if " + value + "=" + number + ";pull 0", "rule: pull 5 if " + value + ">" + number
            + " or " + value + "<" + number + ";pull 0");
        Edges.due(sentence + ", " + value + " is " + want, ride, "force 0", NONE, "ahead 1 0", 5, "force 1", 0, "ahead 1 0", 0);
    }

    private static void reckoning() {
        String[] ride = Edges.on("train 9 0 0");
        value("/ is towards 0", ride, "7/2", 3);
        value("/ is towards 0", ride, "window*7/2", -3);
        value("/ is towards 0", ride, "7/window", -7);
        value("/ is towards 0", ride, "1/2", 0);
        value("/ is towards 0", ride, "window/2", 0);
        value("% its rest", ride, "7%2", 1);
        value("% its rest", ride, "window*7%2", -1);
        value("% its rest", ride, "7%window", 0);
        value("% its rest", ride, "1%2", 1);
        value("both 0 by 0", ride, "7/0", 0);
        value("both 0 by 0", ride, "7%0", 0);
        value("both 0 by 0", ride, "0/0", 0);
        value("both 0 by 0", ride, "window/mile", 0);
        value("both 0 by 0", ride, "window%mile", 0);
        value("both 0 by 0, then goes on", ride, "7/0+3", 3);
        // 2 to the 63rd goes round to the least there is, which has no like above 0
        String least = "32768*32768*32768*32768*8";
        value("goes round in 64 bits", ride, least + "/32768/32768/32768/32768", -8);
        value("goes round in 64 bits", ride, least + "*2", 0);
        value("the least by -1", ride, least + "/window/32768/32768/32768/32768", -8);
        value("the least by -1", ride, least + "%window", 0);
        value("there and back", ride, "1-" + least + "-1-" + least, 0);
    }

    private static void tunnelAndSoon() {
        String train = "train 9 0 0;tunnel 3 4;tunnel 6 6";
        int[] tunnels = {0, 0, 0, 1, 1, 0, 1, 0};
        int[] soon = {3, 2, 1, 3, 2, 1, 99, 99};
        for (int mile = 0; mile < 8; mile++) {
            value("MILE " + mile, Edges.miles(Edges.on(train), mile), "tunnel", tunnels[mile]);
            value("MILE " + mile, Edges.miles(Edges.on(train), mile), "soon", soon[mile]);
        }
        value("99 if none does", Edges.on("train 9 0 0"), "soon", 99);
        value("99 if none does any more", Edges.on("train 9 0 0;tunnel 0 239"), "soon", 99);
        value("the nearest of several", Edges.on("train 9 0 0;tunnel 9 9;tunnel 2 2;tunnel 5 5;tunnel 2 9;tunnel 4 4"), "soon", 2);
        value("as far as it is", Edges.on("train 9 0 0;tunnel 98 98"), "soon", 98);
        value("as far as it is", Edges.on("train 9 0 0;tunnel 100 100"), "soon", 100);
        value("the last MILE", Edges.on("train 9 0 0;tunnel 239 239"), "soon", 239);
        value("the last MILE", Edges.miles(Edges.on("train 9 0 0;tunnel 239 239"), 238), "soon", 1);
        value("the last MILE", Edges.miles(Edges.on("train 9 0 0;tunnel 239 239"), 239), "tunnel", 1);
        value("mile", Edges.miles(Edges.on("train 9 0 0"), 239), "mile", 239);
    }

    private static void window() {
        value("-1 nobody", Edges.on("train 9 0 0"), "window", -1);
        value("-1 nobody in SEAT 0", Edges.on("train 9 0 0;person 4 0 9 9 9;person 1 0 9 9 9"), "window", -1);
        String[] ride = Edges.on("train 9 0 0;person 0 1 3 9 20;person 3 0 9 9 2");
        int[] wants = {-1, 5, 5, -1};
        for (int mile = 0; mile < 4; mile++) {
            value("IN at 1, OUT at 3, MILE " + mile, Edges.miles(ride, mile), "window", wants[mile]);
        }
        value("who was given SEAT 0", Edges.then(Edges.miles(ride, 1), "seats 0 1"), "window", 0);
        value("by their LIE", Edges.then(Edges.miles(ride, 1), "say 0 -9"), "window", 3);
    }

    private static void middleAndMost() {
        String[] nobody = Edges.on("train 9 0 0;hole 4;person 0 1 9 9 9");
        value("the HOLE without anybody", nobody, "middle", 4);
        value("the HOLE without anybody", nobody, "most", 4);
        value("of one who wants 0", Edges.on("train 9 0 0;hole 4;person 7 0 9 9 2"), "middle", 0);
        value("of one who wants 0", Edges.on("train 9 0 0;hole 4;person 7 0 9 9 2"), "most", 0);
        value("of one who wants 5", Edges.on("train 9 0 0;hole 4;person 3 0 9 9 20"), "middle", 5);
        value("of one who wants 5", Edges.on("train 9 0 0;hole 4;person 3 0 9 9 20"), "most", 5);
        String one = "train 9 0 0;hole 4;person 3 0 9 9 2";
        value("of one", Edges.on(one), "middle", 2);
        value("of one", Edges.on(one), "most", 2);
        String two = one + ";person 6 0 9 9 5";
        value("the lower one of two", Edges.on(two), "middle", 2);
        value("of several the least", Edges.on(two), "most", 2);
        String three = two + ";person 2 0 9 9 10";
        value("of three", Edges.on(three), "middle", 5);
        value("of three", Edges.on(three), "most", 5);
        // wants: 1, 1, 2, 3, 4, 5, 5, 0
        String eight = "train 9 0 0;person 0 0 9 9 4;person 1 0 9 9 3;person 2 0 9 9 4;person 3 0 9 9 3;person 4 0 9 9 12;"
            + "person 5 0 9 9 10;person 6 0 9 9 5;person 7 0 9 9 20";
        value("the lower one of the two in the middle of eight", Edges.on(eight), "middle", 2);
        value("of two and two the least", Edges.on(eight), "most", 1);
        value("people, all eight", Edges.on(eight), "people", 8);
        value("who stands wants 0", Edges.on("train 9 0 0;hole 4;person 0 0 9 9 20;person 1 0 9 9 20;person 2 0 9 9 20;"
            + "person 3 0 9 9 20;person 4 0 9 9 20;person 5 0 9 9 20;front 0;front 1;front 2;front 3;front 4;front 5"), "less", 2);
    }

    private static void moreAndLess() {
        String train = ";person 3 0 9 9 2;person 6 0 9 9 2;person 2 0 9 9 6";
        int[][] due = {{3, 0}, {3, 0}, {1, 0}, {0, 2}, {0, 3}, {0, 3}};
        for (int hole = 0; hole < 6; hole++) {
            value("more than HOLE " + hole, Edges.on("train 9 0 0;hole " + hole + train), "more", due[hole][0]);
            value("less than HOLE " + hole, Edges.on("train 9 0 0;hole " + hole + train), "less", due[hole][1]);
        }
        value("nobody", Edges.on("train 9 0 0;hole 3"), "more", 0);
        value("nobody", Edges.on("train 9 0 0;hole 3"), "less", 0);
    }

    private static void peopleCrossKnob() {
        value("nobody", Edges.on("train 9 0 0"), "people", 0);
        value("nobody", Edges.on("train 9 0 0"), "cross", 0);
        String[] ride = Edges.on("train 9 0 0;person 0 0 2 9 20;person 7 0 9 9 9;person 3 3 9 9 1");
        int[] people = {2, 2, 1, 2};
        int[] cross = {0, 1, 0, 0};
        for (int mile = 0; mile < 4; mile++) {
            value("OUT at 2, IN at 3, MILE " + mile, Edges.miles(ride, mile), "people", people[mile]);
            value("of those aboard, MILE " + mile, Edges.miles(ride, mile), "cross", cross[mile]);
        }
        value("of who is crossest", Edges.miles(ride, 5), "cross", 2);
        value("knob as it is, whatever the LAG", Edges.on("train 9 1 6"), "knob", 1);
        value("knob as it is, whatever the LAG", Edges.on("train 9 1 6", "turn 3"), "knob", 3);
        value("knob as it is", Edges.on("train 9 1 0", "turn 0"), "knob", 0);
        value("warm", Edges.on("train 0 0 0"), "warm", 0);
        value("warm", Edges.on("train 60 0 0"), "warm", 60);
    }
}
