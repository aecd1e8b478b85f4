import java.util.Random;

/** Makes texts of trains and rules: right ones, and such as have a fault. */
final class Texts {
    private static final String[] WORDS = {"hole", "warm", "mile", "tunnel", "soon", "window", "middle", "most", "more",
        "less", "people", "cross", "knob"};
    private static final String[] SIGNS = {"<", "<=", "=", ">=", ">"};
    private static final String STRAY = " ;[]<>=+-*/%0123456789abcdefghijklmnopqrstuvwxyzA,.!\u0000\t\n\u00ff";
    private final Random random;

    Texts(Random random) {
        this.random = random;
    }

    private String blank() {
        return random.nextInt(6) == 0 ? " ".repeat(random.nextInt(3)) : "";
    }

    private String number(int low, int high) {
        int v = low + random.nextInt(Math.max(1, high - low + 1));
        if (random.nextInt(60) == 0) {
            v = random.nextInt(3) == 0 ? high + 1 : random.nextInt(120000);
        }
        String zeros = random.nextInt(12) == 0 ? "0".repeat(random.nextInt(4)) : "";
        return " " + blank() + zeros + v + blank();
    }

    String train() {
        StringBuilder t = new StringBuilder();
        t.append(blank()).append("train").append(number(0, 60)).append(number(0, 3)).append(number(0, 6));
        if (random.nextInt(3) != 0) {
            t.append(";hole").append(number(0, 5));
        }
        boolean early = random.nextInt(4) != 0;
        int people = random.nextInt(9);
        int wishes = random.nextInt(3) == 0 ? 3 : 60;
        int start = wishes == 3 ? 15 + random.nextInt(20) : 0;
        for (int p = 0; p < people; p++) {
            int in = early ? random.nextInt(3) == 0 ? random.nextInt(12) : 0 : random.nextInt(240);
            int out = random.nextInt(3) == 0 ? in + 1 + random.nextInt(Math.min(20, 240 - in)) : in + 1 + random.nextInt(240 - in);
            int seats = random.nextInt(3) == 0 ? 1 : 8;
            t.append(";").append(blank()).append("person").append(number(0, seats - 1)).append(number(in, in));
            t.append(number(out, out)).append(number(start, start + Math.min(wishes, 60 - start))).append(number(0, 20));
            if (random.nextInt(3) == 0) {
                t.append(";front").append(number(0, p));
            }
            if (random.nextInt(3) == 0) {
                t.append(";says").append(number(0, p)).append(number(0, 18));
            }
        }
        for (int k = random.nextInt(4); k > 0; k--) {
            int first = random.nextBoolean() ? random.nextInt(20) : random.nextInt(240);
            t.append(";tunnel").append(number(first, first)).append(number(first, Math.min(239, first + 6)));
        }
        for (int k = random.nextInt(4); k > 0; k--) {
            int first = random.nextBoolean() ? random.nextInt(20) : random.nextInt(240);
            t.append(";cold").append(number(first, first)).append(number(first, Math.min(239, first + 9))).append(number(1, 4));
        }
        return cut(t.toString());
    }

    /** Many short clauses, to come to the limits. */
    String longTrain() {
        StringBuilder t = new StringBuilder("train 20 1 1");
        String[] clauses = {"hole 1", "person 1 0 9 9 9", "front 0", "says 0 9", "tunnel 1 2", "cold 1 2 1", "train 1 1 1"};
        String[] many = {"front 0", "says 0 9", "person 0 0 9 9 9"};
        int n = random.nextInt(45);
        t.append(";person 0 0 9 9 9");
        for (int k = 0; k < n; k++) {
            t.append(";").append(random.nextInt(9) == 0 ? clauses[random.nextInt(7)] : many[random.nextInt(30) == 0 ? 2 : random.nextInt(2)]);
        }
        return cut(t.toString());
    }

    private String value() {
        return random.nextInt(3) == 0 ? number(0, random.nextInt(4) == 0 ? 99999 : 9) : blank() + WORDS[random.nextInt(13)] + blank();
    }

    private String sum() {
        StringBuilder t = new StringBuilder(value());
        while (random.nextInt(3) == 0) {
            t.append("+-*/%".charAt(random.nextInt(5))).append(value());
        }
        return t.toString();
    }

    private String fact(int depth) {
        int k = random.nextInt(10);
        if (k == 0 && depth < 12) {
            return " not " + fact(depth + 1);
        }
        if (k == 1 && depth < 12) {
            return blank() + "[" + test(depth + 1) + "]" + blank();
        }
        return " " + sum() + SIGNS[random.nextInt(5)] + sum() + " ";
    }

    private String test(int depth) {
        StringBuilder t = new StringBuilder(fact(depth));
        while (random.nextInt(3) == 0) {
            t.append(random.nextBoolean() ? " or " : " and ").append(fact(depth));
        }
        return t.toString();
    }

    String rule() {
        StringBuilder t = new StringBuilder();
        int clauses = random.nextInt(20) == 0 ? 14 : 1 + random.nextInt(4);
        for (int c = 0; c < clauses; c++) {
            t.append(c == 0 ? "" : ";").append(blank()).append("pull ").append(sum());
            if (random.nextInt(4) != 0) {
                t.append(" if").append(test(0));
            }
        }
        return cut(t.toString());
    }

    /** Deep or many, to come to the limits. */
    String longRule() {
        StringBuilder t = new StringBuilder("pull 1");
        int n = 55 + random.nextInt(8);
        if (random.nextBoolean()) {
            t.append(" if ");
            int depth = 8 + random.nextInt(5);
            for (int k = 0; k < depth; k++) {
                t.append(random.nextBoolean() ? "[" : "not ");
            }
            return cut(t.append("1=1]]]]]").toString());
        }
        for (int k = 1; k < n; k++) {
            t.append("+-*/%".charAt(random.nextInt(5))).append(random.nextInt(10));
        }
        if (random.nextBoolean()) {
            t.append(" if 1").append(SIGNS[random.nextInt(5)]).append("1");
        }
        return cut(t.toString());
    }

    String spoiled(String text) {
        StringBuilder t = new StringBuilder(text);
        for (int k = random.nextInt(3); k >= 0 && t.length() > 0; k--) {
            int i = random.nextInt(t.length());
            switch (random.nextInt(4)) {
                case 0: t.deleteCharAt(i); break;
                case 1: t.setLength(i); break;
                case 2: t.setCharAt(i, STRAY.charAt(random.nextInt(STRAY.length()))); break;
                default: t.insert(i, STRAY.charAt(random.nextInt(STRAY.length()))); break;
            }
        }
        return cut(t.toString());
    }

    private static String cut(String text) {
        return text.length() > 400 ? text.substring(0, 400) : text;
    }
}
