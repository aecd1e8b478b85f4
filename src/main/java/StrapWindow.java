import java.util.Arrays;

/**
 * A compartment of eight seats in a train, the window's strap with its holes, and what
 * may be asked of them. The words are those of the document, where they stand in capitals.
 */
public final class StrapWindow {
    public static final int NONE = -1;

    private static final int SEAT_COUNT = 8;
    private static final int FIRST_BACKWARD_SEAT = 4;
    private static final int FRONT_SEATS = 15;
    private static final int ALL_SEATS = 255;
    private static final int MOST_PEOPLE = 8;
    private static final int MOST_STRETCHES = 5;
    private static final int HOLES = 6;
    private static final int KNOBS = 4;
    private static final int MOST_WARMTH = 60;
    private static final int WARMTHS = 61;
    private static final int MOST_AIR = 20;
    private static final int MOST_LAG = 6;
    private static final int MOST_COLD = 4;
    private static final int LAST_END = 240;
    private static final int MOST_LIE = 9;
    private static final int TUNNEL_TOLL = 9;
    private static final int NO_TUNNEL_SOON = 99;

    private static final int TAPE_BYTES = 400;
    private static final int FED_BYTES = 20;
    private static final int MOST_DIGITS = 5;
    private static final int MOST_LAWS = 6;
    private static final int MOST_LOGS = 10;
    private static final int MOST_LOG_MILES = 60;
    private static final int MOST_UNDONE = 20;
    private static final int MOST_IMAGES = 4;

    private static final int MOST_PLAN_MILES = 24;
    private static final int MOST_TRIAL_MILES = 60;
    private static final int MOST_REST_MILES = 12;
    private static final int REST_LIE = 4;
    private static final int REST_LIES = 3;
    private static final int REST_LIARS = 3;
    private static final int REST_ROWS = 27;
    private static final int MOST_JOURNEYS = 10;

    private static final int REFUSED = -2;
    private static final int NO_PERSON = -100;
    private static final int NO_REST = -200;
    private static final int WITHOUT_THESE = -3;

    // What stands at the reader's place: a byte as itself, or one of these.
    private static final int NUMBER = 256;
    private static final int END = 257;
    private static final int STRANGE_WORD = 258;
    private static final int AT_MOST = 259;
    private static final int AT_LEAST = 260;
    private static final int FIRST_WORD = 300;

    private static final int CANNOT_STAND = 0;
    private static final int BAD_NUMBER = 1;
    private static final int TOO_DEEP = 2;
    private static final int TOO_MANY_VALUES = 3;
    private static final int TOO_MANY_CLAUSES = 4;

    // Words stand in columns of one width, so that a word's place in the text is its number.
    private static final int COLUMN = 6;
    private static final String TRAIN_WORDS = "train hole  personfront says  tunnelcold  ";
    private static final int CLAUSE_TRAIN = 300;
    private static final int CLAUSE_HOLE = 301;
    private static final int CLAUSE_PERSON = 302;
    private static final int CLAUSE_FRONT = 303;
    private static final int CLAUSE_SAYS = 304;
    private static final int CLAUSE_TUNNEL = 305;
    private static final int CLAUSE_COLD = 306;

    private static final String LAW_WORDS =
        "hole  warm  mile  tunnelsoon  windowmiddlemost  more  less  peoplecross knob  pull  if    or    and   not   ";
    private static final int WORD_HOLE = 300;
    private static final int WORD_WARM = 301;
    private static final int WORD_MILE = 302;
    private static final int WORD_TUNNEL = 303;
    private static final int WORD_SOON = 304;
    private static final int WORD_WINDOW = 305;
    private static final int WORD_MIDDLE = 306;
    private static final int WORD_MOST = 307;
    private static final int WORD_MORE = 308;
    private static final int WORD_LESS = 309;
    private static final int WORD_PEOPLE = 310;
    private static final int WORD_CROSS = 311;
    private static final int WORD_KNOB = 312;
    private static final int WORD_PULL = 313;
    private static final int WORD_IF = 314;
    private static final int WORD_OR = 315;
    private static final int WORD_AND = 316;
    private static final int WORD_NOT = 317;

    private final Tape tape = new Tape();
    private final TrainReader trainReader = new TrainReader(tape);
    private final LawReader lawReader = new LawReader(tape);
    private final Law[] laws = new Law[MOST_LAWS];
    private int lawCount = 0;
    private final Scene scene = new Scene(new Cabin(new Train()));
    private final Scene[] images = new Scene[MOST_IMAGES];
    private final Cabin trial = new Cabin(scene.cabin.train);
    private final Seating seating = new Seating();
    private final Planner planner = new Planner();
    private final Climate climate = new Climate();
    private final int[] rowSufferings = new int[REST_ROWS * REST_LIARS];
    private int drawn = 0;

    public StrapWindow() {
    }

    public int feed(int a, int b, int c, int d, int e) {
        if (tape.length + FED_BYTES > TAPE_BYTES) {
            return NONE;
        }
        tape.append(a);
        tape.append(b);
        tape.append(c);
        tape.append(d);
        tape.append(e);
        return tape.length;
    }

    public int end(int n) {
        if (n < 0 || n > tape.length) {
            return NONE;
        }
        tape.length = n;
        return n;
    }

    public int train() {
        Train told = trainReader.readTrain();
        tape.length = 0;
        if (told == null) {
            return REFUSED - tape.fault;
        }
        scene.begin(told);
        return told.people;
    }

    public int rule() {
        if (lawCount >= MOST_LAWS) {
            return NONE;
        }
        Law law = lawReader.readLaw();
        tape.length = 0;
        if (law == null) {
            return REFUSED - tape.fault;
        }
        laws[lawCount] = law;
        lawCount++;
        return lawCount - 1;
    }

    public int force(int rule) {
        if (rule != NONE && !hasLaw(rule)) {
            return REFUSED;
        }
        int before = scene.force;
        scene.force = rule;
        return before;
    }

    public int person(int person, int what) {
        Cabin cabin = scene.cabin;
        if (!cabin.train.hasPerson(person)) {
            return NO_PERSON;
        }
        Rider rider = cabin.train.riders[person];
        boolean aboard = cabin.isAboard(person);
        switch (what) {
            case 0: return cabin.places[person];
            case 1: return aboard ? 1 : 0;
            case 2: return aboard ? cabin.wantOf(person) : NONE;
            case 3: return aboard ? cabin.sufferingOf(person, cabin.hole) : 0;
            case 4: return cabin.crossness[person];
            case 5: return cabin.suffered[person];
            case 6: return cabin.lies[person];
            case 7: return rider.warmth;
            case 8: return rider.air;
            case 9: return rider.facesEngine ? 1 : 0;
            default: return NO_PERSON;
        }
    }

    public int air(int seat, int hole) {
        return isSeat(seat) && isHole(hole) ? airAt(seat, hole) : NONE;
    }

    public int seat(int seat) {
        return hasTrain() && isSeat(seat) ? scene.cabin.sitterOf(seat) : REFUSED;
    }

    public int stretch(int mile, int what) {
        if (!hasTrain() || mile < 0 || mile >= LAST_END || what < 0 || what > 1) {
            return NONE;
        }
        if (what == 1) {
            return scene.cabin.train.coldAt(mile);
        }
        return scene.cabin.train.isTunnel(mile) ? 1 : 0;
    }

    public int mile() {
        if (!hasTrain() || milesLeft() == 0) {
            return NONE;
        }
        return scene.act().go(lawOf(scene.force));
    }

    public int pull(int hole) {
        int before = scene.cabin.hole;
        if (!hasTrain() || !isHole(hole) || hole == before) {
            return NONE;
        }
        scene.act().hole = hole;
        return before;
    }

    public int turn(int knob) {
        int before = knobAgo(scene.cabin.knobs, 0);
        if (!hasTrain() || knob < 0 || knob >= KNOBS || knob == before) {
            return NONE;
        }
        Cabin cabin = scene.act();
        cabin.knobs = withKnob(cabin.knobs, knob);
        return before;
    }

    public boolean seats(int one, int other) {
        if (!scene.cabin.canChange(one, other)) {
            return false;
        }
        scene.act().change(one, other);
        return true;
    }

    public int say(int person, int lie) {
        Cabin cabin = scene.cabin;
        if (!cabin.train.hasPerson(person) || lie < -MOST_LIE || lie > MOST_LIE) {
            return NO_PERSON;
        }
        int before = cabin.lies[person];
        if (lie == before) {
            return NO_PERSON;
        }
        scene.act().lies[person] = lie;
        return before;
    }

    public int undo() {
        return scene.takeBack() ? scene.undoable : REFUSED;
    }

    public int ahead(int n, int what) {
        if (!hasTrain() || n < 0 || n > milesLeft() || what < 0 || what > 2) {
            return NONE;
        }
        trial.copyFrom(scene.cabin);
        goTrial(lawOf(scene.force), n);
        switch (what) {
            case 0: return trial.hole;
            case 1: return trial.warmth;
            default: return trial.sufferedByAll();
        }
    }

    public int which(boolean worst, int what) {
        if (!hasTrain() || what < 0 || what > 1) {
            return NONE;
        }
        int bestHole = 0;
        int least = scene.cabin.sufferingBy(0, worst);
        for (int hole = 1; hole < HOLES; hole++) {
            int suffering = scene.cabin.sufferingBy(hole, worst);
            if (suffering < least) {
                least = suffering;
                bestHole = hole;
            }
        }
        return what == 0 ? bestHole : least;
    }

    public int sit(boolean any, int what) {
        if (!hasTrain() || what < 0 || what > MOST_PEOPLE + 1) {
            return NONE;
        }
        if (!seating.settle(scene.cabin, any)) {
            return REFUSED;
        }
        switch (what) {
            case 0: return seating.suffering;
            case 1: return seating.hole;
            default: return seating.places[what - 2];
        }
    }

    public int plan(int n, int what) {
        if (!canTry(n, MOST_PLAN_MILES) || what < NONE || what >= MOST_PLAN_MILES) {
            return WITHOUT_THESE;
        }
        if (what >= n) {
            return REFUSED;
        }
        trial.copyFrom(scene.cabin);
        planner.prepare(trial, n);
        planner.solve(n);
        if (what == NONE) {
            return planner.leastFrom(scene.cabin.warmth, scene.cabin.hole);
        }
        return planner.holeAfter(scene.cabin.warmth, scene.cabin.hole, what);
    }

    public int comes(int rule, int n, int what) {
        if (!canTry(n, MOST_TRIAL_MILES) || what < 0 || what > 2) {
            return NONE;
        }
        if (rule != NONE && !hasLaw(rule)) {
            return NONE;
        }
        trial.copyFrom(scene.cabin);
        goTrial(lawOf(rule), n);
        switch (what) {
            case 0: return trial.sufferedByAll() - scene.cabin.sufferedByAll();
            case 1: return mostInTrial();
            default: return trial.greatestCrossness();
        }
    }

    public int gains(int person, int rule, int n, int what) {
        Cabin cabin = scene.cabin;
        if (!cabin.train.hasPerson(person) || !hasLaw(rule) || !canTry(n, MOST_TRIAL_MILES)) {
            return NO_PERSON;
        }
        if (what < 0 || what > 1) {
            return NO_PERSON;
        }
        int bestLie = 0;
        int least = sufferedWithLie(person, rule, n, 0);
        int now = least;
        for (int size = 1; size <= MOST_LIE; size++) {
            for (int lie = -size; lie <= size; lie += 2 * size) {
                int suffering = sufferedWithLie(person, rule, n, lie);
                if (suffering < least) {
                    least = suffering;
                    bestLie = lie;
                }
                if (lie == cabin.lies[person]) {
                    now = suffering;
                }
            }
        }
        return what == 0 ? bestLie : now - least;
    }

    public int rests(int rule, int n, int what) {
        if (!hasLaw(rule) || !canTry(n, MOST_REST_MILES) || what < 0 || what > REST_LIARS) {
            return NO_REST;
        }
        int liars = Math.min(REST_LIARS, scene.cabin.train.people);
        if (what > liars) {
            return NO_PERSON;
        }
        int rows = rowsOf(liars);
        for (int row = 0; row < rows; row++) {
            tryRow(row, liars, lawOf(rule), n);
        }
        int resting = 0;
        for (int row = 0; row < rows; row++) {
            if (isResting(row, liars)) {
                if (what > 0) {
                    return lieInRow(row, what - 1, liars);
                }
                resting++;
            }
        }
        return what == 0 ? resting : NO_PERSON;
    }

    public int swing(int warmth) {
        if (!hasTrain() || !isWarmth(warmth)) {
            return NONE;
        }
        return climate.swingFor(scene.cabin, warmth);
    }

    public int log(int n, int warmth) {
        if (n == NONE) {
            scene.logs = 0;
            return 0;
        }
        if (!hasTrain() || n < 0 || n > MOST_LOG_MILES || !isWarmth(warmth)) {
            return REFUSED;
        }
        return scene.addLog(n, warmth) ? scene.logs : REFUSED;
    }

    public int ruled(int what) {
        if (!hasTrain() || what < 0 || what > 2) {
            return NONE;
        }
        climate.compare(scene);
        if (what == 0) {
            return climate.fittingCount();
        }
        int first = climate.firstFitting();
        if (first == NONE) {
            return REFUSED;
        }
        return what == 1 ? first / KNOBS : first % KNOBS;
    }

    public int look(int n) {
        if (!hasTrain() || n < NONE || n > MOST_LOG_MILES) {
            return WITHOUT_THESE;
        }
        climate.compare(scene);
        if (climate.firstFitting() == NONE) {
            return REFUSED;
        }
        return n == NONE ? climate.bestMile() : climate.alikeAt(n);
    }

    public int seed(int x) {
        if (x < 0) {
            return NONE;
        }
        int before = scene.x;
        scene.x = x;
        return before;
    }

    public int journeys(int m, int n, int p, int what) {
        if (!canTry(n, MOST_TRIAL_MILES) || m < 1 || m > MOST_JOURNEYS) {
            return NONE;
        }
        if (p < 0 || p > 100 || what < 0 || what > 1) {
            return NONE;
        }
        drawn = scene.x;
        int suffering = 0;
        int crossness = 0;
        for (int journey = 0; journey < m; journey++) {
            trial.copyFrom(scene.cabin);
            suffering += drawJourney(n, p);
            crossness += trial.crossnessOfAll();
        }
        return what == 0 ? suffering : crossness;
    }

    public int count(int what) {
        Cabin cabin = scene.cabin;
        switch (what) {
            case 0: return cabin.warmth;
            case 1: return knobAgo(cabin.knobs, 0);
            case 2: return cabin.train.lag;
            case 3: return cabin.hole;
            case 4: return cabin.train.people;
            case 5: return cabin.aboardBits();
            case 6: return cabin.train.tunnels;
            case 7: return cabin.train.colds;
            case 8: return lawCount;
            case 9: return scene.force;
            case 10: return cabin.mile;
            case 11: return scene.logs;
            case 12: return scene.undoable;
            case 13: return scene.x;
            case 14: return tape.length;
            default: return NONE;
        }
    }

    public int image(int k) {
        if (k < 0 || k >= MOST_IMAGES) {
            return NONE;
        }
        if (images[k] == null) {
            images[k] = new Scene(scene.cabin);
        }
        images[k].copyFrom(scene);
        return scene.cabin.mile;
    }

    public int back(int k) {
        if (k < 0 || k >= MOST_IMAGES || images[k] == null) {
            return NONE;
        }
        scene.copyFrom(images[k]);
        return scene.cabin.mile;
    }

    private boolean hasTrain() {
        return scene.cabin.train.isTold;
    }

    private boolean hasLaw(int rule) {
        return rule >= 0 && rule < lawCount;
    }

    private Law lawOf(int rule) {
        return hasLaw(rule) ? laws[rule] : null;
    }

    private int milesLeft() {
        return LAST_END - scene.cabin.mile;
    }

    private boolean canTry(int n, int most) {
        return hasTrain() && n >= 1 && n <= most && n <= milesLeft();
    }

    private void goTrial(Law law, int n) {
        for (int i = 0; i < n; i++) {
            trial.go(law);
        }
    }

    private int sufferedInTrial(int person) {
        return trial.suffered[person] - scene.cabin.suffered[person];
    }

    private int mostInTrial() {
        int most = 0;
        for (int person = 0; person < trial.train.people; person++) {
            most = Math.max(most, sufferedInTrial(person));
        }
        return most;
    }

    private int sufferedWithLie(int person, int rule, int n, int lie) {
        trial.copyFrom(scene.cabin);
        trial.lies[person] = lie;
        goTrial(lawOf(rule), n);
        return sufferedInTrial(person);
    }

    private static int rowsOf(int liars) {
        int rows = 1;
        for (int i = 0; i < liars; i++) {
            rows *= REST_LIES;
        }
        return rows;
    }

    // A row is a number of base 3, the first person's lie its highest digit: so rows go in order.
    private static int digitInRow(int row, int person, int liars) {
        int digits = row;
        for (int behind = liars - 1; behind > person; behind--) {
            digits /= REST_LIES;
        }
        return digits % REST_LIES;
    }

    private static int lieInRow(int row, int person, int liars) {
        return (digitInRow(row, person, liars) - 1) * REST_LIE;
    }

    private void tryRow(int row, int liars, Law law, int n) {
        trial.copyFrom(scene.cabin);
        for (int person = 0; person < liars; person++) {
            trial.lies[person] = lieInRow(row, person, liars);
        }
        goTrial(law, n);
        for (int person = 0; person < liars; person++) {
            rowSufferings[row * REST_LIARS + person] = sufferedInTrial(person);
        }
    }

    private boolean isResting(int row, int liars) {
        for (int person = 0; person < liars; person++) {
            int weight = rowsOf(liars - 1 - person);
            int lowest = row - digitInRow(row, person, liars) * weight;
            for (int digit = 0; digit < REST_LIES; digit++) {
                int other = lowest + digit * weight;
                if (rowSufferings[other * REST_LIARS + person] < rowSufferings[row * REST_LIARS + person]) {
                    return false;
                }
            }
        }
        return true;
    }

    private int nextDraw() {
        drawn = (int) ((drawn * 1103515245L + 12345L) & 2147483647L);
        return drawn / 65536;
    }

    private int drawJourney(int n, int p) {
        int suffering = 0;
        Law law = lawOf(scene.force);
        for (int i = 0; i < n; i++) {
            if (nextDraw() % 100 < p) {
                drawPull();
            }
            suffering += trial.go(law);
        }
        return suffering;
    }

    private void drawPull() {
        int aboard = Integer.bitCount(trial.aboardBits());
        if (aboard > 0) {
            trial.hole = trial.wantOf(trial.personAboard(nextDraw() % aboard));
        }
    }

    private static boolean isSeat(int seat) {
        return seat >= 0 && seat < SEAT_COUNT;
    }

    private static boolean isHole(int hole) {
        return hole >= 0 && hole < HOLES;
    }

    private static boolean isWarmth(int warmth) {
        return warmth >= 0 && warmth <= MOST_WARMTH;
    }

    private static int airPerHole(int seat) {
        if (seat < 0) {
            return 0;
        }
        return seat < FIRST_BACKWARD_SEAT ? 4 - seat : 7 - seat;
    }

    private static int airAt(int seat, int hole) {
        return airPerHole(seat) * hole;
    }

    private static int warmthAfter(int warmth, int knob, int hole, int cold) {
        return Math.max(0, Math.min(MOST_WARMTH, warmth + 2 * knob - hole - 1 - cold));
    }

    // The knobs of this mile and of the six before it share a number, two bits each, this mile's lowest.
    private static int knobAgo(int knobs, int miles) {
        return knobs >> 2 * miles & 3;
    }

    private static int withKnob(int knobs, int knob) {
        return knobs & ~3 | knob;
    }

    private static int aMileOlder(int knobs) {
        return (knobs << 2 | knobs & 3) & (1 << 2 * (MOST_LAG + 1)) - 1;
    }

    private static int alwaysKnob(int knob) {
        int knobs = knob;
        for (int i = 0; i < MOST_LAG; i++) {
            knobs = aMileOlder(knobs);
        }
        return knobs;
    }

    /** The bytes that were fed; cut into symbols, they are read one after another, as far as the first fault. */
    private static final class Tape {
        private final byte[] bytes = new byte[TAPE_BYTES];
        private int length = 0;
        private final int[] symbols = new int[TAPE_BYTES + 1];
        private final int[] starts = new int[TAPE_BYTES + 1];
        private final int[] numbers = new int[TAPE_BYTES + 1];
        private int last = NONE;
        private int at = 0;
        private int symbol = END;
        private int number = 0;
        private int fault = 0;

        void append(int four) {
            for (int shift = 24; shift >= 0 && length < TAPE_BYTES; shift -= 8) {
                bytes[length] = (byte) (four >> shift);
                length++;
            }
        }

        /** Cuts the text, of which these words are known, and stands at its first symbol. */
        void open(String words) {
            last = NONE;
            for (int place = 0; place < length; place++) {
                cutAt(place, words);
            }
            put(END, length);
            fault = 0;
            at = NONE;
            advance();
        }

        void advance() {
            if (at < last) {
                at++;
                symbol = symbols[at];
                number = numbers[at];
            }
        }

        void fail(int kind) {
            if (fault == 0) {
                fault = 1 + 8 * starts[at] + kind;
            }
        }

        /** The number at hand, passed over; NONE, and a fault, if there is none from low to high. */
        int takeNumber(int low, int high) {
            if (symbol != NUMBER) {
                fail(CANNOT_STAND);
            } else if (number < low || number > high) {
                fail(BAD_NUMBER);
            }
            if (fault != 0) {
                return NONE;
            }
            int taken = number;
            advance();
            return taken;
        }

        void takeByte(int wanted) {
            if (symbol == wanted) {
                advance();
            } else {
                fail(CANNOT_STAND);
            }
        }

        private void cutAt(int place, String words) {
            int sign = byteAt(place);
            int before = byteAt(place - 1);
            if (isDigit(sign)) {
                if (!isDigit(before)) {
                    put(NUMBER, place);
                }
                // NONE is below whatever a number may be, so too many digits are a bad number.
                numbers[last] = place - starts[last] < MOST_DIGITS ? numbers[last] * 10 + sign - '0' : NONE;
            } else if (isLetter(sign)) {
                if (!isLetter(before)) {
                    put(STRANGE_WORD, place);
                }
                if (!isLetter(byteAt(place + 1))) {
                    symbols[last] = wordIn(words, starts[last], place + 1);
                }
            } else if (sign == '=' && (before == '<' || before == '>')) {
                symbols[last] = before == '<' ? AT_MOST : AT_LEAST;
            } else if (sign != ' ') {
                put(sign, place);
            }
        }

        private void put(int newSymbol, int place) {
            if (last < TAPE_BYTES) {
                last++;
                symbols[last] = newSymbol;
                starts[last] = place;
                numbers[last] = 0;
            }
        }

        private int byteAt(int place) {
            return place >= 0 && place < length && place < TAPE_BYTES ? bytes[place] & 255 : END;
        }

        private static boolean isDigit(int sign) {
            return sign >= '0' && sign <= '9';
        }

        private static boolean isLetter(int sign) {
            return sign >= 'a' && sign <= 'z';
        }

        private int wordIn(String words, int from, int to) {
            for (int column = 0; column + COLUMN <= words.length(); column += COLUMN) {
                if (isColumn(words, column, from, to)) {
                    return FIRST_WORD + column / COLUMN;
                }
            }
            return STRANGE_WORD;
        }

        private boolean isColumn(String words, int column, int from, int to) {
            if (to - from > COLUMN) {
                return false;
            }
            for (int i = 0; i < COLUMN; i++) {
                int letter = from + i < to ? byteAt(from + i) : ' ';
                if (words.charAt(column + i) != letter) {
                    return false;
                }
            }
            return true;
        }
    }

    /** One of the people, as the train tells them. */
    private static final class Rider {
        private int seat = 0;
        private int in = 0;
        private int out = 0;
        private int warmth = 0;
        private int air = 0;
        private int lie = 0;
        private boolean facesEngine = false;
    }

    /** What was told of a train; once read it never changes, so that images may share it. */
    private static final class Train {
        private boolean isTold = false;
        private int warmth = 0;
        private int knob = 0;
        private int lag = 0;
        private int hole = 0;
        private int people = 0;
        private final Rider[] riders = new Rider[MOST_PEOPLE];
        private int tunnels = 0;
        private final int[] tunnelFirsts = new int[MOST_STRETCHES];
        private final int[] tunnelLasts = new int[MOST_STRETCHES];
        private int colds = 0;
        private final int[] coldFirsts = new int[MOST_STRETCHES];
        private final int[] coldLasts = new int[MOST_STRETCHES];
        private final int[] coldnesses = new int[MOST_STRETCHES];

        Train() {
            for (int i = 0; i < MOST_PEOPLE; i++) {
                riders[i] = new Rider();
            }
        }

        boolean hasPerson(int person) {
            return person >= 0 && person < people;
        }

        boolean isTunnel(int mile) {
            for (int i = 0; i < tunnels; i++) {
                if (tunnelFirsts[i] <= mile && mile <= tunnelLasts[i]) {
                    return true;
                }
            }
            return false;
        }

        int milesToTunnel(int mile) {
            int soonest = LAST_END;
            for (int i = 0; i < tunnels; i++) {
                if (tunnelFirsts[i] > mile) {
                    soonest = Math.min(soonest, tunnelFirsts[i]);
                }
            }
            return soonest == LAST_END ? NO_TUNNEL_SOON : soonest - mile;
        }

        int coldAt(int mile) {
            int cold = 0;
            for (int i = 0; i < colds; i++) {
                if (coldFirsts[i] <= mile && mile <= coldLasts[i]) {
                    cold += coldnesses[i];
                }
            }
            return cold;
        }
    }

    /** Reads a train from the tape. */
    private static final class TrainReader {
        private static final int MOST_CLAUSES = 40;
        private final Tape tape;
        private boolean isHoleTold = false;

        TrainReader(Tape tape) {
            this.tape = tape;
        }

        /** The train that the tape tells; null if it has a fault. */
        Train readTrain() {
            Train train = new Train();
            isHoleTold = false;
            tape.open(TRAIN_WORDS);
            readClause(train, 0);
            for (int clauses = 1; clauses <= MOST_CLAUSES && tape.fault == 0 && tape.symbol != END; clauses++) {
                tape.takeByte(';');
                readClause(train, clauses);
            }
            train.isTold = true;
            return tape.fault == 0 ? train : null;
        }

        private void readClause(Train train, int clausesBefore) {
            int clause = tape.symbol;
            if (clause < FIRST_WORD) {
                tape.fail(CANNOT_STAND);
            } else if (clausesBefore == MOST_CLAUSES || isOutOfPlace(train, clause, clausesBefore)) {
                tape.fail(TOO_MANY_CLAUSES);
            }
            if (tape.fault != 0) {
                return;
            }
            tape.advance();
            switch (clause) {
                case CLAUSE_TRAIN: readStart(train); break;
                case CLAUSE_HOLE: readHole(train); break;
                case CLAUSE_PERSON: readPerson(train); break;
                case CLAUSE_FRONT: readFront(train); break;
                case CLAUSE_SAYS: readSays(train); break;
                case CLAUSE_TUNNEL: readTunnel(train); break;
                default: readCold(train); break;
            }
        }

        private boolean isOutOfPlace(Train train, int clause, int clausesBefore) {
            if (clausesBefore == 0) {
                return clause != CLAUSE_TRAIN;
            }
            switch (clause) {
                case CLAUSE_TRAIN: return true;
                case CLAUSE_HOLE: return isHoleTold;
                case CLAUSE_PERSON: return train.people >= MOST_PEOPLE;
                case CLAUSE_TUNNEL: return train.tunnels >= MOST_STRETCHES;
                case CLAUSE_COLD: return train.colds >= MOST_STRETCHES;
                default: return false;
            }
        }

        private void readStart(Train train) {
            train.warmth = tape.takeNumber(0, MOST_WARMTH);
            train.knob = tape.takeNumber(0, KNOBS - 1);
            train.lag = tape.takeNumber(0, MOST_LAG);
        }

        private void readHole(Train train) {
            train.hole = tape.takeNumber(0, HOLES - 1);
            isHoleTold = true;
        }

        private void readPerson(Train train) {
            Rider rider = train.riders[train.people];
            rider.seat = tape.takeNumber(0, SEAT_COUNT - 1);
            rider.in = tape.takeNumber(0, LAST_END - 1);
            rider.out = tape.takeNumber(rider.in + 1, LAST_END);
            rider.warmth = tape.takeNumber(0, MOST_WARMTH);
            rider.air = tape.takeNumber(0, MOST_AIR);
            train.people++;
        }

        private void readFront(Train train) {
            int person = tape.takeNumber(0, train.people - 1);
            if (train.hasPerson(person)) {
                train.riders[person].facesEngine = true;
            }
        }

        private void readSays(Train train) {
            int person = tape.takeNumber(0, train.people - 1);
            int lie = tape.takeNumber(0, 2 * MOST_LIE);
            if (train.hasPerson(person)) {
                train.riders[person].lie = lie - MOST_LIE;
            }
        }

        private void readTunnel(Train train) {
            int first = tape.takeNumber(0, LAST_END - 1);
            train.tunnelFirsts[train.tunnels] = first;
            train.tunnelLasts[train.tunnels] = tape.takeNumber(first, LAST_END - 1);
            train.tunnels++;
        }

        private void readCold(Train train) {
            int first = tape.takeNumber(0, LAST_END - 1);
            train.coldFirsts[train.colds] = first;
            train.coldLasts[train.colds] = tape.takeNumber(first, LAST_END - 1);
            train.coldnesses[train.colds] = tape.takeNumber(1, MOST_COLD);
            train.colds++;
        }
    }

    /** Reads a rule from the tape, and writes it as a code whose signs stand behind what they join. */
    private static final class LawReader {
        private static final int MOST_CLAUSES = 12;
        private static final int MOST_DEPTH = 10;
        private static final int MOST_VALUES = 60;
        private final Tape tape;
        private final int[] code = new int[TAPE_BYTES];
        private int written = 0;
        private int values = 0;

        LawReader(Tape tape) {
            this.tape = tape;
        }

        /** The rule that the tape tells; null if it has a fault. */
        Law readLaw() {
            written = 0;
            values = 0;
            tape.open(LAW_WORDS);
            boolean goesOn = true;
            for (int clauses = 0; clauses <= MOST_CLAUSES && goesOn && tape.fault == 0; clauses++) {
                takePull(clauses);
                readSum();
                boolean hasTest = tape.fault == 0 && tape.symbol == WORD_IF;
                if (hasTest) {
                    tape.advance();
                    readTest(0);
                }
                write(hasTest ? -WORD_IF : -WORD_PULL);
                goesOn = tape.symbol != END;
                if (goesOn) {
                    tape.takeByte(';');
                }
            }
            return tape.fault == 0 ? new Law(Arrays.copyOf(code, written)) : null;
        }

        private void takePull(int clausesBefore) {
            if (tape.symbol != WORD_PULL) {
                tape.fail(CANNOT_STAND);
            } else if (clausesBefore == MOST_CLAUSES) {
                tape.fail(TOO_MANY_CLAUSES);
            } else {
                tape.advance();
            }
        }

        private void write(int step) {
            if (written < TAPE_BYTES) {
                code[written] = step;
                written++;
            }
        }

        private void readTest(int depth) {
            readFact(depth);
            boolean orWaits = false;
            for (int i = 0; i < TAPE_BYTES && tape.fault == 0 && isJoint(tape.symbol); i++) {
                boolean isOr = tape.symbol == WORD_OR;
                // An or waits till the part behind it has been read: and binds closer.
                if (isOr && orWaits) {
                    write(-WORD_OR);
                }
                orWaits = orWaits || isOr;
                tape.advance();
                readFact(depth);
                if (!isOr) {
                    write(-WORD_AND);
                }
            }
            if (orWaits) {
                write(-WORD_OR);
            }
        }

        private static boolean isJoint(int symbol) {
            return symbol == WORD_OR || symbol == WORD_AND;
        }

        private void readFact(int depth) {
            int opening = tape.symbol;
            if (opening != WORD_NOT && opening != '[') {
                readComparison();
            } else if (depth >= MOST_DEPTH) {
                tape.fail(TOO_DEEP);
            } else if (opening == WORD_NOT) {
                tape.advance();
                readFact(depth + 1);
                write(-WORD_NOT);
            } else {
                tape.advance();
                readTest(depth + 1);
                tape.takeByte(']');
            }
        }

        private void readComparison() {
            readSum();
            int sign = tape.symbol;
            values++;
            if (sign != '<' && sign != AT_MOST && sign != '=' && sign != AT_LEAST && sign != '>') {
                tape.fail(CANNOT_STAND);
            } else if (values > MOST_VALUES) {
                tape.fail(TOO_MANY_VALUES);
            }
            if (tape.fault == 0) {
                tape.advance();
                readSum();
                write(-sign);
            }
        }

        private void readSum() {
            readValue();
            int waiting = 0;
            for (int i = 0; i < TAPE_BYTES && tape.fault == 0 && isReckoning(tape.symbol); i++) {
                int sign = tape.symbol;
                boolean isAdding = sign == '+' || sign == '-';
                // What adds waits till the term behind it has been read: what multiplies binds closer.
                if (isAdding && waiting != 0) {
                    write(-waiting);
                }
                tape.advance();
                readValue();
                if (isAdding) {
                    waiting = sign;
                } else {
                    write(-sign);
                }
            }
            if (waiting != 0) {
                write(-waiting);
            }
        }

        private static boolean isReckoning(int symbol) {
            return symbol == '+' || symbol == '-' || symbol == '*' || symbol == '/' || symbol == '%';
        }

        private void readValue() {
            int word = tape.symbol;
            boolean isWord = word >= FIRST_WORD && word <= WORD_KNOB;
            values++;
            if (!isWord && word != NUMBER) {
                tape.fail(CANNOT_STAND);
            } else if (!isWord && tape.number == NONE) {
                tape.fail(BAD_NUMBER);
            } else if (values > MOST_VALUES) {
                tape.fail(TOO_MANY_VALUES);
            }
            if (tape.fault == 0) {
                write(isWord ? -word : tape.number);
                tape.advance();
            }
        }
    }

    /** A rule: steps that put a number (from 0 on), a word's value or what a sign makes on a stack. */
    private static final class Law {
        private static final int MOST_STACKED = 64;
        private final int[] code;
        private final long[] stack = new long[MOST_STACKED];
        private int stacked = 0;
        private final int[] wanting = new int[HOLES];
        private int aboard = 0;
        private int windowWant = NONE;
        private int crossest = 0;

        Law(int[] code) {
            this.code = code;
        }

        /** The hole that the rule says, held to those there are; the one there is if it says none. */
        int holeFor(Cabin cabin) {
            lookAround(cabin);
            stacked = 0;
            for (int i = 0; i < code.length; i++) {
                int step = code[i];
                if (step >= 0) {
                    stack(step);
                } else if (-step >= FIRST_WORD && -step <= WORD_KNOB) {
                    stack(valueOf(-step, cabin));
                } else if (step == -WORD_NOT) {
                    stack(1 - drop());
                } else if (step == -WORD_PULL) {
                    return heldHole(drop());
                } else if (step == -WORD_IF) {
                    boolean holds = drop() != 0;
                    long sum = drop();
                    if (holds) {
                        return heldHole(sum);
                    }
                } else {
                    long right = drop();
                    stack(joined(drop(), -step, right));
                }
            }
            return cabin.hole;
        }

        // A rule may ask for the same again and again, so what hangs on the people is found once.
        private void lookAround(Cabin cabin) {
            Arrays.fill(wanting, 0);
            aboard = 0;
            windowWant = NONE;
            crossest = 0;
            for (int person = 0; person < cabin.train.people; person++) {
                if (cabin.isAboard(person)) {
                    int want = cabin.wantOf(person);
                    wanting[want]++;
                    aboard++;
                    windowWant = cabin.places[person] == 0 ? want : windowWant;
                    crossest = Math.max(crossest, cabin.crossness[person]);
                }
            }
        }

        private static int heldHole(long sum) {
            return (int) Math.max(0L, Math.min(HOLES - 1L, sum));
        }

        private void stack(long value) {
            if (stacked < MOST_STACKED) {
                stack[stacked] = value;
                stacked++;
            }
        }

        private long drop() {
            if (stacked <= 0) {
                return 0;
            }
            stacked--;
            return stack[stacked];
        }

        private static long joined(long left, int sign, long right) {
            switch (sign) {
                case '+': return left + right;
                case '-': return left - right;
                case '*': return left * right;
                case '/': return right == 0 ? 0 : left / right;
                case '%': return right == 0 ? 0 : left % right;
                case '<': return left < right ? 1 : 0;
                case AT_MOST: return left <= right ? 1 : 0;
                case '=': return left == right ? 1 : 0;
                case AT_LEAST: return left >= right ? 1 : 0;
                case '>': return left > right ? 1 : 0;
                case WORD_AND: return left & right;
                default: return left | right;
            }
        }

        private int valueOf(int word, Cabin cabin) {
            switch (word) {
                case WORD_HOLE: return cabin.hole;
                case WORD_WARM: return cabin.warmth;
                case WORD_MILE: return cabin.mile;
                case WORD_TUNNEL: return cabin.train.isTunnel(cabin.mile) ? 1 : 0;
                case WORD_SOON: return cabin.train.milesToTunnel(cabin.mile);
                case WORD_WINDOW: return windowWant;
                case WORD_MIDDLE: return middleWant(cabin.hole);
                case WORD_MOST: return commonestWant(cabin.hole);
                case WORD_MORE: return wantsWithin(cabin.hole + 1, HOLES);
                case WORD_LESS: return wantsWithin(0, cabin.hole);
                case WORD_PEOPLE: return aboard;
                case WORD_CROSS: return crossest;
                default: return knobAgo(cabin.knobs, 0);
            }
        }

        private int middleWant(int without) {
            int passed = 0;
            for (int hole = 0; hole < HOLES; hole++) {
                passed += wanting[hole];
                if (2 * passed >= aboard && aboard > 0) {
                    return hole;
                }
            }
            return without;
        }

        private int commonestWant(int without) {
            int most = 0;
            int commonest = without;
            for (int hole = 0; hole < HOLES; hole++) {
                if (wanting[hole] > most) {
                    most = wanting[hole];
                    commonest = hole;
                }
            }
            return commonest;
        }

        private int wantsWithin(int from, int to) {
            int within = 0;
            for (int hole = Math.max(0, from); hole < to && hole < HOLES; hole++) {
                within += wanting[hole];
            }
            return within;
        }
    }

    /** How it stands in the compartment at the begin of a mile. */
    private static final class Cabin {
        private Train train;
        private Cabin before = null;
        private int hole = 0;
        private int warmth = 0;
        private int mile = 0;
        private int knobs = 0;
        private final int[] places = new int[MOST_PEOPLE];
        private final int[] crossness = new int[MOST_PEOPLE];
        private final int[] suffered = new int[MOST_PEOPLE];
        private final int[] lies = new int[MOST_PEOPLE];

        Cabin(Train train) {
            this.train = train;
        }

        /** As the train tells it, at mile 0. */
        void begin() {
            hole = train.hole;
            warmth = train.warmth;
            knobs = alwaysKnob(train.knob);
            Arrays.fill(places, NONE);
            for (int person = 0; person < train.people; person++) {
                lies[person] = train.riders[person].lie;
            }
            changeRiders();
        }

        void copyFrom(Cabin other) {
            train = other.train;
            hole = other.hole;
            warmth = other.warmth;
            mile = other.mile;
            knobs = other.knobs;
            System.arraycopy(other.places, 0, places, 0, MOST_PEOPLE);
            System.arraycopy(other.crossness, 0, crossness, 0, MOST_PEOPLE);
            System.arraycopy(other.suffered, 0, suffered, 0, MOST_PEOPLE);
            System.arraycopy(other.lies, 0, lies, 0, MOST_PEOPLE);
        }

        boolean isAboard(int person) {
            return train.hasPerson(person) && train.riders[person].in <= mile && mile < train.riders[person].out;
        }

        int aboardBits() {
            int bits = 0;
            for (int person = 0; person < train.people; person++) {
                bits |= isAboard(person) ? 1 << person : 0;
            }
            return bits;
        }

        /** The one of those aboard, by numbers, with so many of them ahead. */
        int personAboard(int ahead) {
            int passed = 0;
            for (int person = 0; person < train.people; person++) {
                if (isAboard(person)) {
                    if (passed == ahead) {
                        return person;
                    }
                    passed++;
                }
            }
            return 0;
        }

        int sitterOf(int seat) {
            for (int person = 0; person < train.people; person++) {
                if (places[person] == seat) {
                    return person;
                }
            }
            return NONE;
        }

        int wantOf(int person) {
            int perHole = airPerHole(places[person]);
            int wished = train.riders[person].air + lies[person];
            if (perHole <= 0 || wished <= 0) {
                return 0;
            }
            int below = wished / perHole;
            // Of two that are as near the lesser hole is wanted.
            int nearest = 2 * (wished % perHole) > perHole ? below + 1 : below;
            return Math.min(HOLES - 1, nearest);
        }

        int sufferingOf(int person, int someHole) {
            return unease(person, places[person], someHole) + tollFor(someHole);
        }

        /** What a person suffers by warmth and air, were they in this seat. */
        int unease(int person, int seat, int someHole) {
            Rider rider = train.riders[person];
            int warmer = warmth - rider.warmth;
            int airier = airAt(seat, someHole) - rider.air;
            return warmer * warmer + airier * airier;
        }

        int tollFor(int someHole) {
            return train.isTunnel(mile) ? TUNNEL_TOLL * someHole : 0;
        }

        /** What those aboard would suffer in this mile, together, or the one who suffers most. */
        int sufferingBy(int someHole, boolean worst) {
            int all = 0;
            int most = 0;
            for (int person = 0; person < train.people; person++) {
                if (isAboard(person)) {
                    int suffering = sufferingOf(person, someHole);
                    all += suffering;
                    most = Math.max(most, suffering);
                }
            }
            return worst ? most : all;
        }

        int sufferedByAll() {
            int all = 0;
            for (int person = 0; person < train.people; person++) {
                all += suffered[person];
            }
            return all;
        }

        int greatestCrossness() {
            int greatest = 0;
            for (int person = 0; person < train.people; person++) {
                if (isAboard(person)) {
                    greatest = Math.max(greatest, crossness[person]);
                }
            }
            return greatest;
        }

        int crossnessOfAll() {
            int all = 0;
            for (int person = 0; person < train.people; person++) {
                all += isAboard(person) ? crossness[person] : 0;
            }
            return all;
        }

        /** One mile, by a rule or (null) by none: what all suffered in it. */
        int go(Law law) {
            if (law != null) {
                hole = law.holeFor(this);
            }
            int all = suffer();
            warmth = warmthAfter(warmth, knobAgo(knobs, train.lag), hole, train.coldAt(mile));
            knobs = aMileOlder(knobs);
            mile++;
            changeRiders();
            return all;
        }

        private int suffer() {
            int all = 0;
            int toll = tollFor(hole);
            for (int person = 0; person < train.people; person++) {
                if (isAboard(person)) {
                    int suffering = unease(person, places[person], hole) + toll;
                    suffered[person] += suffering;
                    all += suffering;
                    int crosser = wantOf(person) == hole ? -1 : 1;
                    crossness[person] = Math.max(0, crossness[person] + crosser);
                }
            }
            return all;
        }

        private void changeRiders() {
            for (int person = 0; person < train.people; person++) {
                if (train.riders[person].out == mile) {
                    places[person] = NONE;
                }
            }
            for (int person = 0; person < train.people; person++) {
                if (train.riders[person].in == mile) {
                    places[person] = placeFor(train.riders[person]);
                }
            }
        }

        private int placeFor(Rider rider) {
            int taken = rider.facesEngine ? FRONT_SEATS : ALL_SEATS;
            int free = taken & ~seatBits();
            if ((free >> rider.seat & 1) != 0) {
                return rider.seat;
            }
            for (int seat = 0; seat < SEAT_COUNT; seat++) {
                if ((free >> seat & 1) != 0) {
                    return seat;
                }
            }
            return NONE;
        }

        int seatBits() {
            int bits = 0;
            for (int person = 0; person < train.people; person++) {
                bits |= places[person] == NONE ? 0 : 1 << places[person];
            }
            return bits;
        }

        boolean takes(int person, int seat) {
            return seat < FIRST_BACKWARD_SEAT || !train.riders[person].facesEngine;
        }

        boolean canChange(int one, int other) {
            if (one == other || !isAboard(one) || !isAboard(other)) {
                return false;
            }
            boolean oneSits = places[one] != NONE || places[other] != NONE;
            return oneSits && takes(one, places[other]) && takes(other, places[one]);
        }

        void change(int one, int other) {
            int place = places[one];
            places[one] = places[other];
            places[other] = place;
        }
    }

    /** All that an image keeps: all but the rules and the tape. */
    private static final class Scene {
        private Cabin cabin;
        private int undoable = 0;
        private int force = NONE;
        private int x = 0;
        private int logs = 0;
        private final int[] logMiles = new int[MOST_LOGS];
        private final int[] logWarmths = new int[MOST_LOGS];

        Scene(Cabin cabin) {
            this.cabin = cabin;
        }

        // A cabin is never changed once an act has left it behind, so scenes may share it.
        void copyFrom(Scene other) {
            cabin = other.cabin;
            undoable = other.undoable;
            force = other.force;
            x = other.x;
            logs = other.logs;
            System.arraycopy(other.logMiles, 0, logMiles, 0, MOST_LOGS);
            System.arraycopy(other.logWarmths, 0, logWarmths, 0, MOST_LOGS);
        }

        void begin(Train train) {
            cabin = new Cabin(train);
            cabin.begin();
            undoable = 0;
            logs = 0;
        }

        /** A new cabin, for an act to change at once; the one there was can be taken back. */
        Cabin act() {
            Cabin after = new Cabin(cabin.train);
            after.copyFrom(cabin);
            after.before = cabin;
            cabin = after;
            undoable = Math.min(MOST_UNDONE, undoable + 1);
            return after;
        }

        boolean takeBack() {
            if (undoable == 0 || cabin.before == null) {
                return false;
            }
            cabin = cabin.before;
            undoable--;
            return true;
        }

        boolean addLog(int n, int warmth) {
            if (logs >= MOST_LOGS) {
                return false;
            }
            logMiles[logs] = n;
            logWarmths[logs] = warmth;
            logs++;
            return true;
        }
    }

    /** Who should sit where: the least is found for each set of seats that those before have taken. */
    private static final class Seating {
        private static final int NO_WAY = 1 << 28;
        private final int[] sitters = new int[MOST_PEOPLE];
        private int sitting = 0;
        private final int[] uneases = new int[MOST_PEOPLE * SEAT_COUNT];
        private final int[] leastFrom = new int[ALL_SEATS + 1];
        private final int[] places = new int[MOST_PEOPLE];
        private int hole = 0;
        private int suffering = 0;

        /** Finds the way, for the hole there is or for any; false if there is none. */
        boolean settle(Cabin cabin, boolean any) {
            gatherSitters(cabin);
            int first = any ? 0 : cabin.hole;
            int last = any ? HOLES - 1 : cabin.hole;
            suffering = NO_WAY;
            for (int some = first; some <= last; some++) {
                int least = leastBy(cabin, some);
                if (least < suffering) {
                    suffering = least;
                    hole = some;
                    choosePlaces(cabin.seatBits());
                }
            }
            return suffering < NO_WAY;
        }

        private void gatherSitters(Cabin cabin) {
            sitting = 0;
            for (int person = 0; person < cabin.train.people; person++) {
                if (cabin.places[person] != NONE) {
                    sitters[sitting] = person;
                    sitting++;
                }
            }
        }

        private int leastBy(Cabin cabin, int some) {
            int toll = cabin.tollFor(some);
            for (int i = 0; i < sitting; i++) {
                for (int seat = 0; seat < SEAT_COUNT; seat++) {
                    int unease = cabin.unease(sitters[i], seat, some) + toll;
                    uneases[i * SEAT_COUNT + seat] = cabin.takes(sitters[i], seat) ? unease : NO_WAY;
                }
            }
            int seats = cabin.seatBits();
            for (int taken = seats; taken >= 0; taken--) {
                if ((taken & ~seats) == 0) {
                    leastFrom[taken] = leastAfter(taken, seats);
                }
            }
            return leastFrom[0];
        }

        private int leastAfter(int taken, int seats) {
            int next = Integer.bitCount(taken);
            if (next >= sitting) {
                return 0;
            }
            int least = NO_WAY;
            for (int seat = 0; seat < SEAT_COUNT; seat++) {
                if (isFree(seat, taken, seats)) {
                    least = Math.min(least, leastThrough(next, seat, taken));
                }
            }
            return least;
        }

        private static boolean isFree(int seat, int taken, int seats) {
            return ((seats & ~taken) >> seat & 1) != 0;
        }

        private int leastThrough(int next, int seat, int taken) {
            return uneases[next * SEAT_COUNT + seat] + leastFrom[taken | 1 << seat];
        }

        private void choosePlaces(int seats) {
            Arrays.fill(places, NONE);
            int taken = 0;
            for (int next = 0; next < sitting; next++) {
                int seat = firstBest(next, taken, seats);
                places[sitters[next]] = seat;
                taken |= 1 << seat;
            }
        }

        private int firstBest(int next, int taken, int seats) {
            for (int seat = 0; seat < SEAT_COUNT; seat++) {
                if (isFree(seat, taken, seats) && leastThrough(next, seat, taken) == leastFrom[taken]) {
                    return seat;
                }
            }
            return 0;
        }
    }

    /** The least suffered with the strap moved a hole at a time, from the last mile to the first. */
    private static final class Planner {
        private static final int STATES = WARMTHS * HOLES;
        private final int[] crowds = new int[MOST_PLAN_MILES];
        private final int[] wishes = new int[MOST_PLAN_MILES];
        private final int[] lateKnobs = new int[MOST_PLAN_MILES];
        private final int[] colds = new int[MOST_PLAN_MILES];
        private final int[] fixed = new int[MOST_PLAN_MILES * HOLES];
        private final int[] through = new int[HOLES];
        private final int[] choices = new int[MOST_PLAN_MILES * WARMTHS];
        private final int[] least = new int[STATES];
        private final int[] leastLater = new int[STATES];

        /** Takes from a cabin, which goes these miles, what does not hang on its holes. */
        void prepare(Cabin cabin, int n) {
            for (int i = 0; i < n && i < MOST_PLAN_MILES; i++) {
                crowds[i] = Integer.bitCount(cabin.aboardBits());
                wishes[i] = 0;
                for (int person = 0; person < cabin.train.people; person++) {
                    wishes[i] += cabin.isAboard(person) ? cabin.train.riders[person].warmth : 0;
                }
                // All that is suffered but the part of the warmth, which goes by its square and its double.
                int byWarmth = crowds[i] * cabin.warmth * cabin.warmth - 2 * cabin.warmth * wishes[i];
                for (int hole = 0; hole < HOLES; hole++) {
                    fixed[i * HOLES + hole] = cabin.sufferingBy(hole, false) - byWarmth;
                }
                lateKnobs[i] = knobAgo(cabin.knobs, cabin.train.lag);
                colds[i] = cabin.train.coldAt(cabin.mile);
                cabin.go(null);
            }
        }

        void solve(int n) {
            Arrays.fill(least, 0);
            for (int i = Math.min(n, MOST_PLAN_MILES) - 1; i >= 0; i--) {
                System.arraycopy(least, 0, leastLater, 0, STATES);
                for (int warmth = 0; warmth < WARMTHS; warmth++) {
                    solveAt(i, warmth);
                }
            }
        }

        private void solveAt(int i, int warmth) {
            int byWarmth = crowds[i] * warmth * warmth - 2 * warmth * wishes[i];
            for (int hole = 0; hole < HOLES; hole++) {
                int later = leastLater[warmthAfter(warmth, lateKnobs[i], hole, colds[i]) * HOLES + hole];
                through[hole] = byWarmth + fixed[i * HOLES + hole] + later;
            }
            int chosen = 0;
            for (int hole = 0; hole < HOLES; hole++) {
                int best = firstBestBeside(hole);
                least[warmth * HOLES + hole] = through[best];
                chosen |= best << 3 * hole;
            }
            choices[i * WARMTHS + warmth] = chosen;
        }

        private int firstBestBeside(int hole) {
            int best = Math.max(0, hole - 1);
            for (int other = best + 1; other <= hole + 1 && other < HOLES; other++) {
                if (through[other] < through[best]) {
                    best = other;
                }
            }
            return best;
        }

        int leastFrom(int warmth, int hole) {
            return least[warmth * HOLES + hole];
        }

        /** The hole of the mile with so many of the plan ahead of it. */
        int holeAfter(int warmthNow, int holeNow, int miles) {
            int warmth = warmthNow;
            int hole = holeNow;
            for (int i = 0; i <= miles && i < MOST_PLAN_MILES; i++) {
                hole = choices[i * WARMTHS + warmth] >> 3 * hole & 7;
                warmth = warmthAfter(warmth, lateKnobs[i], hole, colds[i]);
            }
            return hole;
        }
    }

    /** What comes of the warmth alone. */
    private static final class Climate {
        private static final int PAIRS = HOLES * KNOBS;
        private static final int MOST_STEPS = 1 << 22;
        private final int[] colds = new int[WARMTHS];
        private final int[] paths = new int[PAIRS * WARMTHS];
        private final int[] alike = new int[WARMTHS];
        private int fitting = 0;

        /**
         * The width of the round that turning comes into. A mark is set ever more seldom, so that
         * one mark at last lies in the round and is met again once the round has been gone.
         */
        int swingFor(Cabin cabin, int wished) {
            int warmth = cabin.warmth;
            int knobs = cabin.knobs;
            int markedWarmth = warmth;
            int markedKnobs = knobs;
            int greatest = warmth;
            int least = warmth;
            int nextMark = 1;
            for (int step = 1; step < MOST_STEPS; step++) {
                knobs = withKnob(knobs, knobTurned(knobAgo(knobs, 0), warmth, wished));
                warmth = warmthAfter(warmth, knobAgo(knobs, cabin.train.lag), cabin.hole, 0);
                knobs = aMileOlder(knobs);
                greatest = Math.max(greatest, warmth);
                least = Math.min(least, warmth);
                if (warmth == markedWarmth && knobs == markedKnobs) {
                    return greatest - least;
                }
                if (step == nextMark) {
                    nextMark = 2 * nextMark;
                    markedWarmth = warmth;
                    markedKnobs = knobs;
                    greatest = warmth;
                    least = warmth;
                }
            }
            return greatest - least;
        }

        private static int knobTurned(int knob, int warmth, int wished) {
            if (warmth == wished) {
                return knob;
            }
            return warmth < wished ? KNOBS - 1 : 0;
        }

        /** Finds which pairs of a hole and a knob, told as one number, are as all logs say. */
        void compare(Scene scene) {
            Train train = scene.cabin.train;
            for (int mile = 0; mile < MOST_LOG_MILES; mile++) {
                colds[mile] = train.coldAt(mile);
            }
            fitting = 0;
            for (int pair = 0; pair < PAIRS; pair++) {
                follow(train, pair);
                fitting |= fits(scene, pair) ? 1 << pair : 0;
            }
        }

        private void follow(Train train, int pair) {
            int warmth = train.warmth;
            paths[pair * WARMTHS] = warmth;
            for (int mile = 0; mile < MOST_LOG_MILES; mile++) {
                int knob = mile < train.lag ? train.knob : pair % KNOBS;
                warmth = warmthAfter(warmth, knob, pair / KNOBS, colds[mile]);
                paths[pair * WARMTHS + mile + 1] = warmth;
            }
        }

        private boolean fits(Scene scene, int pair) {
            for (int i = 0; i < scene.logs; i++) {
                if (paths[pair * WARMTHS + scene.logMiles[i]] != scene.logWarmths[i]) {
                    return false;
                }
            }
            return true;
        }

        int fittingCount() {
            return Integer.bitCount(fitting);
        }

        int firstFitting() {
            for (int pair = 0; pair < PAIRS; pair++) {
                if ((fitting >> pair & 1) != 0) {
                    return pair;
                }
            }
            return NONE;
        }

        /** How many fitting pairs at most have the same warmth so many miles behind the begin. */
        int alikeAt(int miles) {
            Arrays.fill(alike, 0);
            int most = 0;
            for (int pair = 0; pair < PAIRS; pair++) {
                if ((fitting >> pair & 1) != 0) {
                    int warmth = paths[pair * WARMTHS + miles];
                    alike[warmth]++;
                    most = Math.max(most, alike[warmth]);
                }
            }
            return most;
        }

        int bestMile() {
            int best = 0;
            int fewest = alikeAt(0);
            for (int miles = 1; miles <= MOST_LOG_MILES; miles++) {
                int most = alikeAt(miles);
                if (most < fewest) {
                    fewest = most;
                    best = miles;
                }
            }
            return best;
        }
    }
}
