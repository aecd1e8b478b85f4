import java.util.ArrayDeque;
import java.util.ArrayList;
import java.util.Arrays;
import java.util.Deque;
import java.util.HashMap;
import java.util.List;
import java.util.Map;
import java.util.function.Predicate;
import java.util.function.ToLongFunction;

/** A second, slow and plain reading of the document, by other means, to hold the class against. */
final class Oracle {
    static final int NONE = -1;

    static final class Fault extends RuntimeException {
        private static final long serialVersionUID = 1L;
        final int number;

        Fault(int place, int kind) {
            super(null, null, false, false);
            number = 1 + 8 * place + kind;
        }
    }

    static final class Person {
        int seat, in, out, warmth, air, lie;
        boolean front;
    }

    static final class Told {
        int warmth, knob, lag, hole;
        List<Person> people = new ArrayList<>();
        List<int[]> tunnels = new ArrayList<>();
        List<int[]> colds = new ArrayList<>();

        boolean tunnel(int mile) {
            return tunnels.stream().anyMatch(t -> t[0] <= mile && mile <= t[1]);
        }

        int cold(int mile) {
            return colds.stream().filter(t -> t[0] <= mile && mile <= t[1]).mapToInt(t -> t[2]).sum();
        }
    }

    /** The state that acts change; knobs are kept for every mile. */
    static final class State {
        Told told;
        int hole, warmth, mile;
        int[] knobs = new int[242];
        Integer[] seats = new Integer[8];
        boolean[] aboard = new boolean[8];
        int[] cross = new int[8], suffered = new int[8], lies = new int[8];

        State copy() {
            State s = new State();
            s.told = told;
            s.hole = hole;
            s.warmth = warmth;
            s.mile = mile;
            s.knobs = knobs.clone();
            s.seats = seats.clone();
            s.aboard = aboard.clone();
            s.cross = cross.clone();
            s.suffered = suffered.clone();
            s.lies = lies.clone();
            return s;
        }

        int people() {
            return told == null ? 0 : told.people.size();
        }

        int knobLagged() {
            int m = mile - told.lag;
            return m < 0 ? told.knob : knobs[m];
        }

        static int air(Integer seat, int hole) {
            return seat == null ? 0 : hole * new int[] {4, 3, 2, 1, 3, 2, 1, 0}[seat];
        }

        int want(int p) {
            if (seats[p] == null) {
                return 0;
            }
            int best = 0;
            int wish = told.people.get(p).air + lies[p];
            for (int h = 1; h < 6; h++) {
                if (Math.abs(air(seats[p], h) - wish) < Math.abs(air(seats[p], best) - wish)) {
                    best = h;
                }
            }
            return best;
        }

        int suffers(int p, Integer seat, int h) {
            Person q = told.people.get(p);
            int a = warmth - q.warmth;
            int b = air(seat, h) - q.air;
            return a * a + b * b + (told.tunnel(mile) ? 9 * h : 0);
        }

        boolean takes(int p, Integer seat) {
            return seat == null || seat < 4 || !told.people.get(p).front;
        }

        void getIn(int p) {
            aboard[p] = true;
            seats[p] = null;
            List<Integer> order = new ArrayList<>();
            order.add(told.people.get(p).seat);
            for (int s = 0; s < 8; s++) {
                order.add(s);
            }
            for (int s : order) {
                if (takes(p, s) && !Arrays.asList(seats).contains(s)) {
                    seats[p] = s;
                    return;
                }
            }
        }

        int go(Rule rule) {
            if (rule != null) {
                hole = rule.hole(this);
            }
            int all = 0;
            for (int p = 0; p < people(); p++) {
                if (aboard[p]) {
                    int s = suffers(p, seats[p], hole);
                    all += s;
                    suffered[p] += s;
                    if (want(p) != hole) {
                        cross[p]++;
                    } else if (cross[p] > 0) {
                        cross[p]--;
                    }
                }
            }
            warmth += 2 * knobLagged() - hole - 1 - told.cold(mile);
            warmth = warmth < 0 ? 0 : warmth > 60 ? 60 : warmth;
            mile++;
            knobs[mile] = knobs[mile - 1];
            for (int p = 0; p < people(); p++) {
                if (told.people.get(p).out == mile) {
                    aboard[p] = false;
                    seats[p] = null;
                }
            }
            for (int p = 0; p < people(); p++) {
                if (told.people.get(p).in == mile) {
                    getIn(p);
                }
            }
            return all;
        }

        int total() {
            return Arrays.stream(suffered).sum();
        }

        List<Integer> those() {
            List<Integer> l = new ArrayList<>();
            for (int p = 0; p < people(); p++) {
                if (aboard[p]) {
                    l.add(p);
                }
            }
            return l;
        }

        long word(String w) {
            List<Integer> wants = new ArrayList<>();
            for (int p : those()) {
                wants.add(want(p));
            }
            wants.sort(null);
            switch (w) {
                case "hole": return hole;
                case "warm": return warmth;
                case "mile": return mile;
                case "tunnel": return told.tunnel(mile) ? 1 : 0;
                case "soon": return told.tunnels.stream().mapToInt(t -> t[0] - mile).filter(d -> d > 0).min().orElse(99);
                case "window":
                    for (int p : those()) {
                        if (seats[p] != null && seats[p] == 0) {
                            return want(p);
                        }
                    }
                    return -1;
                case "middle": return wants.isEmpty() ? hole : wants.get((wants.size() - 1) / 2);
                case "most": {
                    long best = hole;
                    long many = 0;
                    for (int h = 0; h < 6; h++) {
                        int g = h;
                        long n = wants.stream().filter(x -> x == g).count();
                        if (n > many) {
                            many = n;
                            best = h;
                        }
                    }
                    return best;
                }
                case "more": return wants.stream().filter(x -> x > hole).count();
                case "less": return wants.stream().filter(x -> x < hole).count();
                case "people": return wants.size();
                case "cross": return those().stream().mapToInt(p -> cross[p]).max().orElse(0);
                case "knob": return knobs[mile];
                default: throw new IllegalStateException(w);
            }
        }
    }

    static final class Clause {
        ToLongFunction<State> sum;
        Predicate<State> test;
    }

    static final class Rule {
        List<Clause> clauses = new ArrayList<>();

        int hole(State s) {
            for (Clause c : clauses) {
                if (c.test == null || c.test.test(s)) {
                    long v = c.sum.applyAsLong(s);
                    return v < 0 ? 0 : v > 5 ? 5 : (int) v;
                }
            }
            return s.hole;
        }
    }

    /** Reads bytes, one at a time. */
    static class Text {
        final String t;
        int i = 0;

        Text(String t) {
            this.t = t;
        }

        void blanks() {
            while (i < t.length() && t.charAt(i) == ' ') {
                i++;
            }
        }

        char peek() {
            blanks();
            return i < t.length() ? t.charAt(i) : (char) 0xffff;
        }

        String peekWord() {
            blanks();
            int j = i;
            while (j < t.length() && t.charAt(j) >= 'a' && t.charAt(j) <= 'z') {
                j++;
            }
            return t.substring(i, j);
        }

        boolean atEnd() {
            return peek() == (char) 0xffff;
        }

        int number(int low, int high) {
            blanks();
            int j = i;
            while (j < t.length() && t.charAt(j) >= '0' && t.charAt(j) <= '9') {
                j++;
            }
            if (j == i) {
                throw new Fault(i, 0);
            }
            if (j - i > 5) {
                throw new Fault(i, 1);
            }
            int v = Integer.parseInt(t.substring(i, j));
            if (v < low || v > high) {
                throw new Fault(i, 1);
            }
            i = j;
            return v;
        }
    }

    static Told readTrain(String text) {
        Text t = new Text(text);
        Told told = new Told();
        boolean hole = false;
        for (int n = 0;; n++) {
            String w = t.peekWord();
            if (!List.of("train", "hole", "person", "front", "says", "tunnel", "cold").contains(w)) {
                throw new Fault(t.i, 0);
            }
            if (n == 40 || w.equals("train") != (n == 0) || w.equals("hole") && hole
                || w.equals("person") && told.people.size() == 8 || w.equals("tunnel") && told.tunnels.size() == 5
                || w.equals("cold") && told.colds.size() == 5) {
                throw new Fault(t.i, 4);
            }
            t.i += w.length();
            int people = told.people.size();
            if (w.equals("train")) {
                told.warmth = t.number(0, 60);
                told.knob = t.number(0, 3);
                told.lag = t.number(0, 6);
            } else if (w.equals("hole")) {
                told.hole = t.number(0, 5);
                hole = true;
            } else if (w.equals("person")) {
                Person p = new Person();
                p.seat = t.number(0, 7);
                p.in = t.number(0, 239);
                p.out = t.number(p.in + 1, 240);
                p.warmth = t.number(0, 60);
                p.air = t.number(0, 20);
                told.people.add(p);
            } else if (w.equals("front")) {
                told.people.get(t.number(0, people - 1)).front = true;
            } else if (w.equals("says")) {
                Person p = told.people.get(t.number(0, people - 1));
                p.lie = t.number(0, 18) - 9;
            } else {
                int first = t.number(0, 239);
                int last = t.number(first, 239);
                if (w.equals("tunnel")) {
                    told.tunnels.add(new int[] {first, last});
                } else {
                    told.colds.add(new int[] {first, last, t.number(1, 4)});
                }
            }
            if (t.atEnd()) {
                return told;
            }
            if (t.peek() != ';') {
                throw new Fault(t.i, 0);
            }
            t.i++;
        }
    }

    /** Reads a rule into functions. */
    static final class RuleText extends Text {
        int values = 0;

        RuleText(String t) {
            super(t);
        }

        Rule rule() {
            Rule r = new Rule();
            for (int n = 0;; n++) {
                if (!peekWord().equals("pull")) {
                    throw new Fault(i, 0);
                }
                if (n == 12) {
                    throw new Fault(i, 4);
                }
                i += 4;
                Clause c = new Clause();
                c.sum = sum();
                if (peekWord().equals("if")) {
                    i += 2;
                    c.test = test(0);
                }
                r.clauses.add(c);
                if (atEnd()) {
                    return r;
                }
                if (peek() != ';') {
                    throw new Fault(i, 0);
                }
                i++;
            }
        }

        Predicate<State> test(int depth) {
            Predicate<State> p = part(depth);
            while (peekWord().equals("or")) {
                i += 2;
                p = p.or(part(depth));
            }
            return p;
        }

        Predicate<State> part(int depth) {
            Predicate<State> p = fact(depth);
            while (peekWord().equals("and")) {
                i += 3;
                p = p.and(fact(depth));
            }
            return p;
        }

        Predicate<State> fact(int depth) {
            boolean not = peekWord().equals("not");
            if (not || peek() == '[') {
                if (depth == 10) {
                    throw new Fault(i, 2);
                }
                i += not ? 3 : 1;
                if (not) {
                    return fact(depth + 1).negate();
                }
                Predicate<State> p = test(depth + 1);
                if (peek() != ']') {
                    throw new Fault(i, 0);
                }
                i++;
                return p;
            }
            ToLongFunction<State> a = sum();
            char c = peek();
            if (c != '<' && c != '=' && c != '>') {
                throw new Fault(i, 0);
            }
            tally();
            i++;
            boolean orSame = c != '=' && i < t.length() && t.charAt(i) == '=';
            i += orSame ? 1 : 0;
            ToLongFunction<State> b = sum();
            return s -> {
                int d = Long.compare(a.applyAsLong(s), b.applyAsLong(s));
                return d == 0 ? c == '=' || orSame : d < 0 ? c == '<' : c == '>';
            };
        }

        void tally() {
            values++;
            if (values > 60) {
                throw new Fault(i, 3);
            }
        }

        ToLongFunction<State> sum() {
            ToLongFunction<State> f = term();
            while (peek() == '+' || peek() == '-') {
                boolean plus = peek() == '+';
                i++;
                ToLongFunction<State> a = f;
                ToLongFunction<State> b = term();
                f = plus ? s -> a.applyAsLong(s) + b.applyAsLong(s) : s -> a.applyAsLong(s) - b.applyAsLong(s);
            }
            return f;
        }

        ToLongFunction<State> term() {
            ToLongFunction<State> f = value();
            while (peek() == '*' || peek() == '/' || peek() == '%') {
                char c = peek();
                i++;
                ToLongFunction<State> a = f;
                ToLongFunction<State> b = value();
                f = s -> {
                    long x = a.applyAsLong(s);
                    long y = b.applyAsLong(s);
                    return c == '*' ? x * y : y == 0 ? 0 : c == '/' ? x / y : x % y;
                };
            }
            return f;
        }

        ToLongFunction<State> value() {
            String w = peekWord();
            if (List.of("hole", "warm", "mile", "tunnel", "soon", "window", "middle", "most", "more", "less", "people",
                "cross").contains(w) || w.equals("knob")) {
                tally();
                i += w.length();
                return s -> s.word(w);
            }
            int from = i;
            long v = number(0, 99999);
            int behind = i;
            i = from;
            tally();
            i = behind;
            return s -> v;
        }
    }

    /** What an image holds. */
    static final class All {
        State state = new State();
        Deque<State> past = new ArrayDeque<>();
        int force = NONE;
        int x = 0;
        List<int[]> logs = new ArrayList<>();

        All copy() {
            All a = new All();
            a.state = state.copy();
            for (State s : past) {
                a.past.addLast(s.copy());
            }
            a.force = force;
            a.x = x;
            a.logs = new ArrayList<>(logs);
            return a;
        }
    }

    StringBuilder tape = new StringBuilder();
    List<Rule> rules = new ArrayList<>();
    All all = new All();
    All[] images = new All[4];

    int feed(int a, int b, int c, int d, int e) {
        if (tape.length() > 380) {
            return NONE;
        }
        for (int v : new int[] {a, b, c, d, e}) {
            for (int k = 3; k >= 0; k--) {
                tape.append((char) (v >>> 8 * k & 255));
            }
        }
        return tape.length();
    }

    int end(int n) {
        if (n < 0 || n > tape.length()) {
            return NONE;
        }
        tape.setLength(n);
        return n;
    }

    int train() {
        String text = tape.toString();
        tape.setLength(0);
        Told told;
        try {
            told = readTrain(text);
        } catch (Fault f) {
            return -2 - f.number;
        }
        State s = new State();
        s.told = told;
        s.hole = told.hole;
        s.warmth = told.warmth;
        s.knobs[0] = told.knob;
        for (int p = 0; p < told.people.size(); p++) {
            s.lies[p] = told.people.get(p).lie;
            if (told.people.get(p).in == 0) {
                s.getIn(p);
            }
        }
        all.state = s;
        all.past.clear();
        all.logs.clear();
        return told.people.size();
    }

    int rule() {
        if (rules.size() == 6) {
            return NONE;
        }
        String text = tape.toString();
        tape.setLength(0);
        try {
            rules.add(new RuleText(text).rule());
        } catch (Fault f) {
            return -2 - f.number;
        }
        return rules.size() - 1;
    }

    int force(int rule) {
        if (rule < NONE || rule >= rules.size()) {
            return -2;
        }
        int was = all.force;
        all.force = rule;
        return was;
    }

    boolean told() {
        return all.state.told != null;
    }

    boolean person(int p) {
        return p >= 0 && p < all.state.people();
    }

    static boolean within(int v, int low, int high) {
        return v >= low && v <= high;
    }

    Rule law(int rule) {
        return rule == NONE ? null : rules.get(rule);
    }

    int person(int p, int what) {
        State s = all.state;
        if (!person(p) || !within(what, 0, 9)) {
            return -100;
        }
        Person q = s.told.people.get(p);
        return new int[] {
            s.seats[p] == null ? NONE : s.seats[p], s.aboard[p] ? 1 : 0, s.aboard[p] ? s.want(p) : NONE,
            s.aboard[p] ? s.suffers(p, s.seats[p], s.hole) : 0, s.cross[p], s.suffered[p], s.lies[p], q.warmth, q.air,
            q.front ? 1 : 0}[what];
    }

    int air(int seat, int hole) {
        return within(seat, 0, 7) && within(hole, 0, 5) ? State.air(seat, hole) : NONE;
    }

    int seat(int seat) {
        return told() && within(seat, 0, 7) ? Arrays.asList(all.state.seats).indexOf(seat) : -2;
    }

    int stretch(int mile, int what) {
        if (!told() || !within(mile, 0, 239) || !within(what, 0, 1)) {
            return NONE;
        }
        return what == 1 ? all.state.told.cold(mile) : all.state.told.tunnel(mile) ? 1 : 0;
    }

    State act() {
        all.past.addLast(all.state.copy());
        if (all.past.size() > 20) {
            all.past.removeFirst();
        }
        return all.state;
    }

    int left() {
        return 240 - all.state.mile;
    }

    int mile() {
        return told() && left() > 0 ? act().go(law(all.force)) : NONE;
    }

    int pull(int hole) {
        int was = all.state.hole;
        if (!told() || !within(hole, 0, 5) || hole == was) {
            return NONE;
        }
        act().hole = hole;
        return was;
    }

    int turn(int knob) {
        State s = all.state;
        if (!told() || !within(knob, 0, 3) || knob == s.knobs[s.mile]) {
            return NONE;
        }
        int was = s.knobs[s.mile];
        act().knobs[s.mile] = knob;
        return was;
    }

    boolean seats(int one, int other) {
        State s = all.state;
        if (!person(one) || !person(other) || one == other || !s.aboard[one] || !s.aboard[other]) {
            return false;
        }
        Integer a = s.seats[one];
        Integer b = s.seats[other];
        if (a == null && b == null || !s.takes(one, b) || !s.takes(other, a)) {
            return false;
        }
        act();
        s.seats[one] = b;
        s.seats[other] = a;
        return true;
    }

    int say(int p, int lie) {
        if (!person(p) || !within(lie, -9, 9) || all.state.lies[p] == lie) {
            return -100;
        }
        int was = all.state.lies[p];
        act().lies[p] = lie;
        return was;
    }

    int undo() {
        if (all.past.isEmpty()) {
            return -2;
        }
        all.state = all.past.removeLast();
        return all.past.size();
    }

    int ahead(int n, int what) {
        if (!told() || !within(n, 0, left()) || !within(what, 0, 2)) {
            return NONE;
        }
        State s = ride(all.state.copy(), law(all.force), n);
        return what == 0 ? s.hole : what == 1 ? s.warmth : s.total();
    }

    static State ride(State s, Rule rule, int n) {
        for (int i = 0; i < n; i++) {
            s.go(rule);
        }
        return s;
    }

    int which(boolean worst, int what) {
        if (!told() || !within(what, 0, 1)) {
            return NONE;
        }
        int best = NONE;
        int least = Integer.MAX_VALUE;
        for (int h = 0; h < 6; h++) {
            int v = 0;
            for (int p : all.state.those()) {
                int q = all.state.suffers(p, all.state.seats[p], h);
                v = worst ? Math.max(v, q) : v + q;
            }
            if (v < least) {
                least = v;
                best = h;
            }
        }
        return what == 0 ? best : least;
    }

    private int sitLeast;
    private int sitHole;
    private int[] sitWay;

    int sit(boolean any, int what) {
        if (!told() || !within(what, 0, 9)) {
            return NONE;
        }
        List<Integer> sitters = new ArrayList<>();
        List<Integer> free = new ArrayList<>();
        for (int p : all.state.those()) {
            if (all.state.seats[p] != null) {
                sitters.add(p);
                free.add(all.state.seats[p]);
            }
        }
        free.sort(null);
        sitLeast = Integer.MAX_VALUE;
        for (int h = 0; h < 6; h++) {
            if (any || h == all.state.hole) {
                int[] way = new int[8];
                Arrays.fill(way, NONE);
                ways(sitters, free, 0, h, way, 0);
            }
        }
        return what == 0 ? sitLeast : what == 1 ? sitHole : sitWay[what - 2];
    }

    private void ways(List<Integer> sitters, List<Integer> free, int k, int h, int[] way, int sum) {
        if (sum >= sitLeast) {
            return;
        }
        if (k == sitters.size()) {
            sitLeast = sum;
            sitHole = h;
            sitWay = way.clone();
            return;
        }
        int p = sitters.get(k);
        for (int s : new ArrayList<>(free)) {
            if (all.state.takes(p, s)) {
                List<Integer> rest = new ArrayList<>(free);
                rest.remove((Integer) s);
                way[p] = s;
                ways(sitters, rest, k + 1, h, way, sum + all.state.suffers(p, s, h));
            }
        }
    }

    int plan(int n, int what) {
        if (!told() || !within(n, 1, Math.min(24, left())) || !within(what, NONE, 23)) {
            return -3;
        }
        if (what >= n) {
            return -2;
        }
        Map<String, int[]> memo = new HashMap<>();
        int[] best = planned(all.state.copy(), n, memo);
        return what == NONE ? best[0] : best[what + 1];
    }

    // All but warmth and hole goes the same way whatever the holes are.
    private static int[] planned(State s, int n, Map<String, int[]> memo) {
        if (n == 0) {
            return new int[] {0};
        }
        String key = n + " " + s.warmth + " " + s.hole;
        if (!memo.containsKey(key)) {
            int[] best = null;
            for (int h = Math.max(0, s.hole - 1); h <= Math.min(5, s.hole + 1); h++) {
                State t = s.copy();
                t.hole = h;
                int suffering = t.go(null);
                int[] rest = planned(t, n - 1, memo);
                if (best == null || suffering + rest[0] < best[0]) {
                    best = new int[n + 1];
                    best[0] = suffering + rest[0];
                    best[1] = h;
                    System.arraycopy(rest, 1, best, 2, n - 1);
                }
            }
            memo.put(key, best);
        }
        return memo.get(key);
    }

    int comes(int rule, int n, int what) {
        if (!told() || !within(rule, NONE, rules.size() - 1) || !within(n, 1, Math.min(60, left())) || !within(what, 0, 2)) {
            return NONE;
        }
        State s = ride(all.state.copy(), law(rule), n);
        int most = 0;
        for (int p = 0; p < 8; p++) {
            most = Math.max(most, s.suffered[p] - all.state.suffered[p]);
        }
        return what == 0 ? s.total() - all.state.total() : what == 1 ? most : (int) s.word("cross");
    }

    int gains(int p, int rule, int n, int what) {
        if (!person(p) || !within(rule, 0, rules.size() - 1) || !within(n, 1, Math.min(60, left())) || !within(what, 0, 1)) {
            return -100;
        }
        int[] by = new int[19];
        for (int lie = -9; lie <= 9; lie++) {
            State s = all.state.copy();
            s.lies[p] = lie;
            by[lie + 9] = ride(s, law(rule), n).suffered[p] - all.state.suffered[p];
        }
        int best = -9;
        for (int lie = -9; lie <= 9; lie++) {
            if (by[lie + 9] < by[best + 9] || by[lie + 9] == by[best + 9] && Math.abs(lie) < Math.abs(best)) {
                best = lie;
            }
        }
        return what == 0 ? best : by[all.state.lies[p] + 9] - by[best + 9];
    }

    int rests(int rule, int n, int what) {
        if (!told() || !within(rule, 0, rules.size() - 1) || !within(n, 1, Math.min(12, left())) || !within(what, 0, 3)) {
            return -200;
        }
        int k = Math.min(3, all.state.people());
        int many = 0;
        int[] first = null;
        int[] lies = {-4, 0, 4};
        for (int a : lies) {
            for (int b : k > 1 ? lies : new int[1]) {
                for (int c : k > 2 ? lies : new int[1]) {
                    int[] row = {a, b, c};
                    if (k == 0 && a != -4) {
                        continue;
                    }
                    if (rest(row, k, rule, n)) {
                        many++;
                        first = first == null ? row : first;
                    }
                }
            }
        }
        if (what == 0) {
            return many;
        }
        return first == null || what > k ? -100 : first[what - 1];
    }

    private boolean rest(int[] row, int k, int rule, int n) {
        for (int p = 0; p < k; p++) {
            for (int other = -4; other <= 4; other += 4) {
                int[] changed = row.clone();
                changed[p] = other;
                if (suffered(changed, k, rule, n, p) < suffered(row, k, rule, n, p)) {
                    return false;
                }
            }
        }
        return true;
    }

    private int suffered(int[] row, int k, int rule, int n, int p) {
        State s = all.state.copy();
        System.arraycopy(row, 0, s.lies, 0, k);
        return ride(s, law(rule), n).suffered[p] - all.state.suffered[p];
    }

    int swing(int wished) {
        if (!told() || !within(wished, 0, 60)) {
            return NONE;
        }
        State s = all.state;
        List<Integer> knobs = new ArrayList<>();
        for (int ago = s.told.lag; ago >= 0; ago--) {
            knobs.add(s.mile - ago < 0 ? s.told.knob : s.knobs[s.mile - ago]);
        }
        int warmth = s.warmth;
        Map<String, Integer> seen = new HashMap<>();
        List<Integer> warmths = new ArrayList<>();
        for (;;) {
            String key = warmth + " " + knobs;
            if (seen.containsKey(key)) {
                List<Integer> round = warmths.subList(seen.get(key), warmths.size());
                return round.stream().mapToInt(v -> v).max().getAsInt() - round.stream().mapToInt(v -> v).min().getAsInt();
            }
            seen.put(key, warmths.size());
            warmths.add(warmth);
            int last = knobs.size() - 1;
            knobs.set(last, warmth < wished ? Integer.valueOf(3) : warmth > wished ? Integer.valueOf(0) : knobs.get(last));
            warmth = Math.min(60, Math.max(0, warmth + 2 * knobs.get(0) - s.hole - 1));
            knobs.add(knobs.get(last));
            knobs.remove(0);
        }
    }

    int log(int n, int warmth) {
        if (n == NONE) {
            all.logs.clear();
            return 0;
        }
        if (!told() || !within(n, 0, 60) || !within(warmth, 0, 60) || all.logs.size() == 10) {
            return -2;
        }
        all.logs.add(new int[] {n, warmth});
        return all.logs.size();
    }

    /** For each hole and knob by which all logs are so: these, and the warmth n miles on at n + 2. */
    private List<int[]> fitting() {
        List<int[]> fits = new ArrayList<>();
        for (int h = 0; h < 6; h++) {
            for (int k = 0; k < 4; k++) {
                State s = new State();
                s.told = new Told();
                s.told.warmth = all.state.told.warmth;
                s.told.knob = all.state.told.knob;
                s.told.lag = all.state.told.lag;
                s.told.colds = all.state.told.colds;
                s.warmth = s.told.warmth;
                s.hole = h;
                s.knobs[0] = k;
                int[] fit = new int[63];
                fit[0] = h;
                fit[1] = k;
                for (int n = 0; n <= 60; n++) {
                    fit[n + 2] = s.warmth;
                    s.go(null);
                }
                if (all.logs.stream().allMatch(l -> fit[l[0] + 2] == l[1])) {
                    fits.add(fit);
                }
            }
        }
        return fits;
    }

    int ruled(int what) {
        if (!told() || !within(what, 0, 2)) {
            return NONE;
        }
        List<int[]> fits = fitting();
        return what == 0 ? fits.size() : fits.isEmpty() ? -2 : fits.get(0)[what - 1];
    }

    private static int alike(List<int[]> fits, int n) {
        Map<Integer, Integer> tally = new HashMap<>();
        fits.forEach(f -> tally.merge(f[n + 2], 1, Integer::sum));
        return tally.values().stream().max(Integer::compare).get();
    }

    int look(int n) {
        if (!told() || !within(n, NONE, 60)) {
            return -3;
        }
        List<int[]> fits = fitting();
        if (fits.isEmpty()) {
            return -2;
        }
        if (n != NONE) {
            return alike(fits, n);
        }
        int best = 0;
        for (int m = 0; m <= 60; m++) {
            best = alike(fits, m) < alike(fits, best) ? m : best;
        }
        return best;
    }

    int seed(int x) {
        if (x < 0) {
            return NONE;
        }
        int was = all.x;
        all.x = x;
        return was;
    }

    private long draws;

    private int draw() {
        draws = (draws * 1103515245L + 12345L) % 2147483648L;
        return (int) (draws / 65536);
    }

    int journeys(int m, int n, int p, int what) {
        if (!told() || !within(m, 1, 10) || !within(n, 1, Math.min(60, left())) || !within(p, 0, 100) || !within(what, 0, 1)) {
            return NONE;
        }
        draws = all.x;
        int suffering = 0;
        int cross = 0;
        for (int j = 0; j < m; j++) {
            State s = all.state.copy();
            for (int i = 0; i < n; i++) {
                boolean pulls = draw() % 100 < p;
                List<Integer> those = s.those();
                if (pulls && !those.isEmpty()) {
                    s.hole = s.want(those.get(draw() % those.size()));
                }
                suffering += s.go(law(all.force));
            }
            cross += s.those().stream().mapToInt(q -> s.cross[q]).sum();
        }
        return what == 0 ? suffering : cross;
    }

    int count(int what) {
        State s = all.state;
        switch (what) {
            case 0: return s.warmth;
            case 1: return s.knobs[s.mile];
            case 2: return told() ? s.told.lag : 0;
            case 3: return s.hole;
            case 4: return s.people();
            case 5: return s.those().stream().mapToInt(p -> 1 << p).sum();
            case 6: return told() ? s.told.tunnels.size() : 0;
            case 7: return told() ? s.told.colds.size() : 0;
            case 8: return rules.size();
            case 9: return all.force;
            case 10: return s.mile;
            case 11: return all.logs.size();
            case 12: return all.past.size();
            case 13: return all.x;
            case 14: return tape.length();
            default: return NONE;
        }
    }

    int image(int k) {
        if (!within(k, 0, 3)) {
            return NONE;
        }
        images[k] = all.copy();
        return all.state.mile;
    }

    int back(int k) {
        if (!within(k, 0, 3) || images[k] == null) {
            return NONE;
        }
        all = images[k].copy();
        return all.state.mile;
    }
}
