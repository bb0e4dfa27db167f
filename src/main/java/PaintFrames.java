/** Paint isomers: paintings of a frame's places, alike up to its turns, or to its turns and mirrors. */
public final class PaintFrames {
    public static final int NONE = -1, BAD = -2, STATE = -3, FULL = -4, OVER = -15;
    public static final long NO = Long.MIN_VALUE;

    private static final int NOTHING = -11, CAST = -12, PLACE = -13, SIZE = -14;
    private static final int EMPTY = -5;
    private static final int EMPTY_PLACE = -1;
    private static final int FAULT_BASE = -10;
    private static final int JUDGED_SHORT = 100;

    private static final int FEWEST_PLACES = 2, MOST_PLACES = 6;
    private static final int MOST_KINDS = 4, MOST_WEIGHT = 9;
    private static final int MOST_GENERATORS = 4, MOST_MOVES = 120;
    private static final int RACKS = 3, RACK_PLACES = 3;
    private static final int MOST_TYPES = 11;
    private static final int MOST_SIGNS = 100, MOST_CLAUSES = 12;
    private static final int MOST_SEEN = 5, MOST_EVENTS = 8;
    private static final int TAPES = 6, MOST_ITEMS = 60;
    private static final int BYTES = 0, SHORTS = 1, INTS = 2, BOOLEANS = 4;
    private static final int TEXT = 1, CLAUSE = 2, DIGIT = 3, SIGN = 4, MOVES = 5, ROOM = 6;

    /** What one cycle of 1, 2, .. 6 places adds to a TYPE stands at its length. */
    private static final int[] CYCLE_WORTH = {0, 100000, 10000, 1000, 100, 10, 1};

    private final Frame frame = new Frame();
    private final Frame taken = new Frame();
    private boolean hasImage;
    private Moves moves = new Moves();
    private Moves spare = new Moves();
    private final Index types = new Index();
    private final Classes byTurns = new Classes();
    private final Classes byAll = new Classes();
    private final Text text = new Text();
    private final Trouble trouble = new Trouble();
    private final Tape[] tapes = new Tape[TAPES];

    public PaintFrames() {
        for (int t = 0; t < TAPES; t++) {
            tapes[t] = new Tape();
        }
        moves.begin(frame.places);
    }

    // ---- the frame

    public int places(int v) {
        if (v < FEWEST_PLACES || v > MOST_PLACES) {
            return BAD;
        }
        int before = frame.places;
        frame.places = v;
        frame.howManyGenerators = 0;
        frame.emptyRacks();
        moves.begin(v);
        forgetClasses();
        return before;
    }

    public int kinds(int v) {
        if (v < 1 || v > MOST_KINDS) {
            return BAD;
        }
        int before = frame.kinds;
        frame.kinds = v;
        forgetClasses();
        return before;
    }

    public int weight(int kind, int v) {
        if (kind < 0 || kind >= MOST_KINDS) {
            return NONE;
        }
        if (v < 0 || v > MOST_WEIGHT) {
            return BAD;
        }
        int before = frame.weights[kind];
        frame.weights[kind] = v;
        return before;
    }

    public int generator(int row, int hand) {
        int packed = Digits.packedRow(row, frame.places);
        if (packed < 0 || !isFlag(hand)) {
            return BAD;
        }
        int number = frame.howManyGenerators;
        if (number >= MOST_GENERATORS) {
            return FULL;
        }
        frame.generators[number] = packed << 1 | hand;
        if (!spare.grow(frame.generators, lowestBits(number + 1), frame.places)) {
            trouble.begin(MOVES, number);
            trouble.because(ROOM, MOST_MOVES);
            return OVER;
        }
        frame.howManyGenerators = number + 1;
        Moves outgrown = moves;
        moves = spare;
        spare = outgrown;
        forgetClasses();
        return number;
    }

    public int drop() {
        if (frame.howManyGenerators <= 0) {
            return STATE;
        }
        int left = frame.howManyGenerators - 1;
        frame.howManyGenerators = left;
        frame.takeFromRacks(left);
        growMoves();
        return left;
    }

    public int of(int generator, int what) {
        if (!isGenerator(generator)) {
            return NONE;
        }
        return tellMove(frame.generators[generator], what);
    }

    public int lay(int rack, int place, int generator) {
        if (rack < 0 || rack >= RACKS || (generator != EMPTY_PLACE && !isGenerator(generator))) {
            return NONE;
        }
        if (place < 0 || place >= RACK_PLACES) {
            return PLACE;
        }
        if (generator != EMPTY_PLACE && !takes(rack, frame.generators[generator] & 1)) {
            return CAST;
        }
        int at = rack * RACK_PLACES + place;
        int before = frame.racks[at];
        frame.racks[at] = generator;
        return before == EMPTY_PLACE ? EMPTY : before;
    }

    public int rack(int rack, int what) {
        if (rack < 0 || rack >= RACKS) {
            return NONE;
        }
        if (isFlag(what)) {
            return tellMove(productOf(rack), what);
        }
        if (what < 10 || what >= 10 + RACK_PLACES) {
            return NONE;
        }
        int held = frame.racks[rack * RACK_PLACES + what - 10];
        return held == EMPTY_PLACE ? EMPTY : held;
    }

    // ---- moves, cycles

    public int move(int i, int what) {
        if (i < 0 || i >= moves.found) {
            return NONE;
        }
        return tellMove(moves.keys[i], what);
    }

    public int told(int what) {
        switch (what) {
            case 0: return frame.places;
            case 1: return frame.kinds;
            case 2: return frame.howManyGenerators;
            case 3: return moves.found;
            case 4: return moves.turns;
            case 5: return paintings();
            case 6: return howManyClasses(0);
            case 7: return howManyClasses(1);
            // a class by 1 is one class by 0, or the two of a pair
            case 8: return howManyClasses(0) - howManyClasses(1);
            default: return NONE;
        }
    }

    public int index(int by, int k, int what) {
        if (!isFlag(by)) {
            return NONE;
        }
        types.fill(moves, by);
        if (k == -1) {
            return types.sorts;
        }
        if (k < 0 || k >= types.sorts || !isFlag(what)) {
            return NONE;
        }
        return what == 0 ? types.sort[k] : types.howOften[k];
    }

    public long part(int by, int k, int part) {
        if (!isFlag(by)) {
            return NO;
        }
        types.fill(moves, by);
        if (k < 0 || k >= types.sorts || !isFlag(part)) {
            return NO;
        }
        int shared = commonDivisor(types.howOften[k], types.moves);
        int whole = part == 0 ? types.howOften[k] : types.moves;
        return shared > 0 ? whole / shared : whole;
    }

    public long many(int by, int x) {
        if (!isFlag(by) || x < 0 || x > 9) {
            return NO;
        }
        types.fill(moves, by);
        return types.classesFor(x);
    }

    // ---- classes

    public int least(int by, int painting) {
        if (!isFlag(by)) {
            return NONE;
        }
        int packed = packedPainting(painting);
        if (packed < 0) {
            return BAD;
        }
        return paintingNumber(moves.leastMade(packed, 0, by));
    }

    public int size(int by, int painting) {
        if (!isFlag(by)) {
            return NONE;
        }
        int packed = packedPainting(painting);
        return packed < 0 ? BAD : moves.howManyMade(packed, by);
    }

    public int kindOf(int by, int i, int what) {
        if (!isFlag(by) || i < 0) {
            return NONE;
        }
        Classes classes = classesBy(by);
        if (i >= classes.howMany) {
            return NONE;
        }
        int painting = classes.leasts[i];
        switch (what) {
            case 0: return paintingNumber(painting);
            case 1: return moves.howManyMade(painting, by);
            case 2: return frame.weightOf(painting);
            case 3: return Digits.howOftenEach(painting, frame.places);
            default: return NONE;
        }
    }

    public int heavy(int by, int w) {
        if (!isFlag(by)) {
            return NONE;
        }
        if (w < 0 || w > 99) {
            return BAD;
        }
        Classes classes = classesBy(by);
        int so = 0;
        for (int i = 0; i < classes.howMany; i++) {
            if (frame.weightOf(classes.leasts[i]) == w) {
                so++;
            }
        }
        return so;
    }

    public int use(int by, int use) {
        if (!isFlag(by)) {
            return NONE;
        }
        if (use < 0 || use > 9999) {
            return BAD;
        }
        Classes classes = classesBy(by);
        int so = 0;
        for (int i = 0; i < classes.howMany; i++) {
            if (Digits.howOftenEach(classes.leasts[i], frame.places) == use) {
                so++;
            }
        }
        return so;
    }

    public int same(int by, int a, int b) {
        if (!isFlag(by)) {
            return NONE;
        }
        int first = packedPainting(a);
        int second = packedPainting(b);
        if (first < 0 || second < 0) {
            return BAD;
        }
        return moves.makes(first, second, by) ? 1 : 0;
    }

    public int handed(int painting, int what) {
        if (!isFlag(what)) {
            return NONE;
        }
        int packed = packedPainting(painting);
        if (packed < 0) {
            return BAD;
        }
        boolean mirrored = moves.turns < moves.found;
        // what mirrors make of a painting is one whole class by 0, so its least tells all
        int other = moves.leastMade(packed, 1, 1);
        if (what == 1) {
            return mirrored ? paintingNumber(other) : EMPTY;
        }
        return mirrored && other != moves.leastMade(packed, 0, 0) ? 1 : 0;
    }

    // ---- floats, doubles

    public int even(int by) {
        if (!isFlag(by)) {
            return NONE;
        }
        return Bits.ofFloat((float) howManyClasses(by) / (float) paintings());
    }

    public long likely(int by, int painting) {
        int packed = packedPainting(painting);
        if (!isFlag(by) || packed < 0) {
            return NO;
        }
        return Bits.ofDouble((double) moves.howManyMade(packed, by) / (double) paintings());
    }

    public int mean(int painting, int what) {
        int packed = packedPainting(painting);
        if (packed < 0) {
            return BAD;
        }
        if (!isFlag(what)) {
            return NONE;
        }
        float mean = (float) frame.weightOf(packed) / (float) frame.places;
        return what == 0 ? Bits.ofFloat(mean) : (int) (mean + 0.5f);
    }

    public long spread(int painting, int what) {
        int packed = packedPainting(painting);
        if (packed < 0 || !isFlag(what)) {
            return NO;
        }
        double mean = (double) frame.weightOf(packed) / (double) frame.places;
        double sum = 0.0;
        for (int p = 0; p < frame.places; p++) {
            double off = (double) frame.weightAt(packed, p) - mean;
            sum = sum + off * off;
        }
        double spread = sum / (double) frame.places;
        return what == 0 ? Bits.ofDouble(spread) : (long) spread;
    }

    // ---- texts, troubles

    public int feed(int sign) {
        if (sign < 0 || sign > 127) {
            return BAD;
        }
        return text.add(sign) ? text.length : FULL;
    }

    public int read() {
        int fault = text.findFault();
        if (fault >= 0) {
            text.explain(fault, trouble);
            text.length = 0;
            return FAULT_BASE - fault;
        }
        int done = 0;
        for (int c = 0; c < text.whole; c++) {
            if (doClause(text.letterOf(c), text.numberOf(c)) >= 0) {
                done++;
            }
        }
        text.length = 0;
        return done;
    }

    public int cause(int i, int what) {
        if (i < 0 || !isFlag(what)) {
            return NONE;
        }
        if (i >= trouble.length) {
            return EMPTY;
        }
        return what == 0 ? trouble.sorts[i] : trouble.numbers[i];
    }

    // ---- seen, events

    public int see(int a, int b, boolean is) {
        if (a == -1) {
            frame.howManySeen = 0;
            return 0;
        }
        int first = packedPainting(a);
        int second = packedPainting(b);
        if (first < 0 || second < 0) {
            return BAD;
        }
        return frame.addSeen(first, second, is ? 1 : 0) ? frame.howManySeen : FULL;
    }

    public int fits(int what) {
        if (!isFlag(what)) {
            return NONE;
        }
        int fitting = 0;
        int first = EMPTY;
        int sets = 1 << frame.howManyGenerators;
        boolean possible = frame.allSeenCount();
        for (int set = 0; possible && set < sets; set++) {
            if (allIsAsSeen(set)) {
                first = fitting == 0 ? set : first;
                fitting++;
            }
        }
        return what == 0 ? fitting : first;
    }

    public int event(int what, int n) {
        if (what == -1) {
            frame.howManyEvents = 0;
            return 0;
        }
        if (what < 0 || what > 2) {
            return NONE;
        }
        boolean right = what == 0 ? n >= 1 && n <= MOST_KINDS : n >= 0 && n < MOST_GENERATORS;
        if (!right) {
            return BAD;
        }
        return frame.addEvent(what, n) ? frame.howManyEvents : FULL;
    }

    public int after() {
        int kindsThen = frame.kinds;
        int left = lowestBits(frame.howManyGenerators);
        for (int e = 0; e < frame.howManyEvents; e++) {
            if (frame.eventWhat[e] == 0) {
                kindsThen = frame.eventNumber[e];
            } else if (frame.eventWhat[e] == 1) {
                left &= ~(1 << frame.eventNumber[e]);
            }
            // another hand changes no class by 1: the rows that come of all stay the same
        }
        spare.grow(frame.generators, left, frame.places);
        types.fill(spare, 1);
        return (int) types.classesFor(kindsThen);
    }

    // ---- judging, the image, tapes

    public int judge(int by, int tape, int i) {
        if (!isFlag(by) || !isTape(tape)) {
            return NONE;
        }
        Tape row = tapes[tape];
        if (row.holds() && row.sort != INTS) {
            return CAST;
        }
        if (!row.holds() || i < 0) {
            return JUDGED_SHORT;
        }
        Classes classes = classesBy(by);
        for (int c = 0; c < classes.howMany; c++) {
            if (i >= row.length - c) {
                return JUDGED_SHORT + c;
            }
            if (row.items[i + c] != paintingNumber(classes.leasts[c])) {
                return c;
            }
        }
        return EMPTY;
    }

    public int image() {
        taken.become(frame);
        hasImage = true;
        return moves.found;
    }

    public int undo() {
        if (!hasImage) {
            return STATE;
        }
        frame.become(taken);
        growMoves();
        return moves.found;
    }

    public int count(int what) {
        switch (what) {
            case 0: return frame.howManySeen;
            case 1: return frame.howManyEvents;
            case 2: return text.length;
            default: return BAD;
        }
    }

    public int tape(int tape, int sort, int n) {
        if (!isTape(tape)) {
            return NONE;
        }
        if (sort == Tape.HOLDS_NOTHING) {
            tapes[tape].hold(sort, 0);
            return 1;
        }
        if (sort < BYTES || sort > BOOLEANS || n > MOST_ITEMS) {
            return BAD;
        }
        if (n < 0) {
            return SIZE;
        }
        tapes[tape].hold(sort, n);
        return 1;
    }

    public int item(int tape, int i, long v) {
        if (!isTape(tape)) {
            return NONE;
        }
        Tape row = tapes[tape];
        if (!row.holds()) {
            return NOTHING;
        }
        if (i < 0 || i >= row.length) {
            return PLACE;
        }
        row.items[i] = row.cut(v);
        return 1;
    }

    public long peek(int tape, int i) {
        if (!isTape(tape)) {
            return NO;
        }
        Tape row = tapes[tape];
        return row.holds() && i >= 0 && i < row.length ? row.items[i] : NO;
    }

    public int shift(int tape, int i, int other, int j, int n) {
        if (!isTape(tape) || !isTape(other)) {
            return NONE;
        }
        Tape from = tapes[tape];
        Tape to = tapes[other];
        if (!from.holds() || !to.holds()) {
            return NOTHING;
        }
        if (from.sort != to.sort) {
            return CAST;
        }
        if (n < 0 || !from.hasRoom(i, n) || !to.hasRoom(j, n)) {
            return PLACE;
        }
        System.arraycopy(from.items, i, to.items, j, n);
        return n;
    }

    // ---- what the calls share

    /** Most of the face's choices (by, what, part, hand) are of 0 and 1. */
    private static boolean isFlag(int v) {
        return v == 0 || v == 1;
    }

    private static boolean isTape(int tape) {
        return tape >= 0 && tape < TAPES;
    }

    private boolean isGenerator(int number) {
        return number >= 0 && number < frame.howManyGenerators && number < MOST_GENERATORS;
    }

    private static boolean takes(int rack, int hand) {
        return rack == 0 || rack == hand + 1;
    }

    private static int lowestBits(int howMany) {
        return (1 << howMany) - 1;
    }

    private int packedPainting(int number) {
        return Digits.packed(number, frame.places, 0, frame.kinds);
    }

    private int paintingNumber(int packed) {
        return Digits.number(packed, frame.places, 0);
    }

    private int paintings() {
        int all = 1;
        for (int p = 0; p < frame.places; p++) {
            all *= frame.kinds;
        }
        return all;
    }

    private int howManyClasses(int by) {
        types.fill(moves, by);
        return (int) types.classesFor(frame.kinds);
    }

    private Classes classesBy(int by) {
        Classes classes = by == 0 ? byTurns : byAll;
        if (!classes.known) {
            classes.find(moves, by, frame.kinds, paintings());
        }
        return classes;
    }

    private void forgetClasses() {
        byTurns.known = false;
        byAll.known = false;
    }

    private void growMoves() {
        moves.grow(frame.generators, lowestBits(frame.howManyGenerators), frame.places);
        forgetClasses();
    }

    private int tellMove(int key, int what) {
        int row = key >> 1;
        switch (what) {
            case 0: return Digits.number(row, frame.places, 1);
            case 1: return key & 1;
            case 2: return Digits.cycleType(row, frame.places);
            default: return NONE;
        }
    }

    private int productOf(int rack) {
        int product = Digits.unmoved(frame.places) << 1;
        for (int p = 0; p < RACK_PLACES; p++) {
            int held = frame.racks[rack * RACK_PLACES + p];
            if (isGenerator(held)) {
                product = Moves.behind(product, frame.generators[held], frame.places);
            }
        }
        return product;
    }

    private static int commonDivisor(int a, int b) {
        int greater = a;
        int lesser = b;
        for (int step = 0; step < 64 && lesser > 0; step++) {
            int rest = greater % lesser;
            greater = lesser;
            lesser = rest;
        }
        return greater;
    }

    private int doClause(int letter, int number) {
        switch (letter) {
            case 'n': return places(number);
            case 'k': return kinds(number);
            case 'w': return weight(number / 10, number % 10);
            case 't': return generator(number, 0);
            case 'm': return generator(number, 1);
            default: return NONE;
        }
    }

    private boolean allIsAsSeen(int set) {
        spare.grow(frame.generators, set, frame.places);
        for (int s = 0; s < frame.howManySeen; s++) {
            boolean alike = spare.makes(frame.seenFirst[s], frame.seenSecond[s], 1);
            if (alike != (frame.seenIs[s] == 1)) {
                return false;
            }
        }
        return true;
    }

    /**
     * Rows and paintings as six digits of three bits, place 0 uppermost, so that they stand in the
     * order of the numbers that tell them. A row's digits are 1 less than those that tell it.
     */
    private static final class Digits {
        /** How far up the digit of place 0 stands. */
        static final int TOP = 3 * (MOST_PLACES - 1);

        static int at(int digits, int place) {
            return digits >> TOP - 3 * place & 7;
        }

        static int put(int digit, int place) {
            return digit << TOP - 3 * place;
        }

        /** -1, if a digit is not one of the howMany from lowest on, or there are too many. */
        static int packed(int number, int places, int lowest, int howMany) {
            int left = number;
            int made = 0;
            for (int p = places - 1; p >= 0; p--) {
                int digit = left % 10 - lowest;
                if (digit < 0 || digit >= howMany) {
                    return -1;
                }
                made |= put(digit, p);
                left /= 10;
            }
            return left == 0 ? made : -1;
        }

        static int packedRow(int number, int places) {
            int row = packed(number, places, 1, places);
            int met = 0;
            for (int p = 0; row >= 0 && p < places; p++) {
                met |= 1 << at(row, p);
            }
            return met == (1 << places) - 1 ? row : -1;
        }

        static int number(int digits, int places, int lowest) {
            int made = 0;
            for (int p = 0; p < places; p++) {
                made = made * 10 + at(digits, p) + lowest;
            }
            return made;
        }

        static int unmoved(int places) {
            int row = 0;
            for (int p = 0; p < places; p++) {
                row |= put(p, p);
            }
            return row;
        }

        /** What a row makes of digits: of a painting, or of the row that went ahead of it. */
        static int moved(int digits, int row, int places) {
            int made = 0;
            for (int p = 0; p < places; p++) {
                made |= put(at(digits, at(row, p)), p);
            }
            return made;
        }

        /**
         * Stops at the first digit that is otherwise, and looks at digits by itself: all paintings are
         * asked about each move when the classes are found, which nothing else costs as much as.
         */
        static boolean becomesLess(int painting, int row, int places) {
            int last = TOP - 3 * (places - 1);
            for (int shift = TOP; shift >= last; shift -= 3) {
                int more = (painting >> TOP - 3 * (row >> shift & 7) & 7) - (painting >> shift & 7);
                if (more != 0) {
                    return more < 0;
                }
            }
            return false;
        }

        static int nextPainting(int painting, int places, int kinds) {
            int next = painting;
            for (int p = places - 1; p >= 0; p--) {
                int digit = at(next, p);
                if (digit < kinds - 1) {
                    return next + put(1, p);
                }
                next -= put(digit, p);
            }
            return next;
        }

        static boolean isOfKinds(int painting, int places, int kinds) {
            for (int p = 0; p < places; p++) {
                if (at(painting, p) >= kinds) {
                    return false;
                }
            }
            return true;
        }

        static int howOftenEach(int painting, int places) {
            int use = 0;
            for (int p = 0; p < places; p++) {
                switch (at(painting, p)) {
                    case 0: use += 1000; break;
                    case 1: use += 100; break;
                    case 2: use += 10; break;
                    default: use += 1; break;
                }
            }
            return use;
        }

        static int cycleType(int row, int places) {
            int type = 0;
            int passed = 0;
            for (int start = 0; start < places; start++) {
                int length = 0;
                int p = start;
                while (length < MOST_PLACES && (passed >> p & 1) == 0) {
                    passed |= 1 << p;
                    p = at(row, p);
                    length++;
                }
                type += CYCLE_WORTH[length];
            }
            return type;
        }
    }

    /** All that THE IMAGE keeps. A generator is its packed row, twice, and its hand. */
    private static final class Frame {
        int places = 4;
        int kinds = 2;
        final int[] weights = {0, 1, 2, 3};
        int howManyGenerators;
        final int[] generators = new int[MOST_GENERATORS];
        final int[] racks = new int[RACKS * RACK_PLACES];
        int howManySeen;
        final int[] seenFirst = new int[MOST_SEEN];
        final int[] seenSecond = new int[MOST_SEEN];
        final int[] seenIs = new int[MOST_SEEN];
        final int[] seenPlaces = new int[MOST_SEEN];
        int howManyEvents;
        final int[] eventWhat = new int[MOST_EVENTS];
        final int[] eventNumber = new int[MOST_EVENTS];

        Frame() {
            emptyRacks();
        }

        void emptyRacks() {
            for (int r = 0; r < racks.length; r++) {
                racks[r] = EMPTY_PLACE;
            }
        }

        void takeFromRacks(int generator) {
            for (int r = 0; r < racks.length; r++) {
                if (racks[r] == generator) {
                    racks[r] = EMPTY_PLACE;
                }
            }
        }

        int weightAt(int painting, int place) {
            int kind = Digits.at(painting, place);
            return kind < weights.length ? weights[kind] : 0;
        }

        int weightOf(int painting) {
            int sum = 0;
            for (int p = 0; p < places; p++) {
                sum += weightAt(painting, p);
            }
            return sum;
        }

        boolean addSeen(int first, int second, int is) {
            if (howManySeen >= MOST_SEEN) {
                return false;
            }
            seenFirst[howManySeen] = first;
            seenSecond[howManySeen] = second;
            seenIs[howManySeen] = is;
            seenPlaces[howManySeen] = places;
            howManySeen++;
            return true;
        }

        /** Whether no row is of other places, or of kinds that there aren't: else nothing can fit. */
        boolean allSeenCount() {
            for (int s = 0; s < howManySeen; s++) {
                if (seenPlaces[s] != places
                        || !Digits.isOfKinds(seenFirst[s], places, kinds)
                        || !Digits.isOfKinds(seenSecond[s], places, kinds)) {
                    return false;
                }
            }
            return true;
        }

        boolean addEvent(int what, int number) {
            if (howManyEvents >= MOST_EVENTS) {
                return false;
            }
            eventWhat[howManyEvents] = what;
            eventNumber[howManyEvents] = number;
            howManyEvents++;
            return true;
        }

        void become(Frame other) {
            places = other.places;
            kinds = other.kinds;
            System.arraycopy(other.weights, 0, weights, 0, MOST_KINDS);
            howManyGenerators = other.howManyGenerators;
            System.arraycopy(other.generators, 0, generators, 0, MOST_GENERATORS);
            System.arraycopy(other.racks, 0, racks, 0, RACKS * RACK_PLACES);
            howManySeen = other.howManySeen;
            System.arraycopy(other.seenFirst, 0, seenFirst, 0, MOST_SEEN);
            System.arraycopy(other.seenSecond, 0, seenSecond, 0, MOST_SEEN);
            System.arraycopy(other.seenIs, 0, seenIs, 0, MOST_SEEN);
            System.arraycopy(other.seenPlaces, 0, seenPlaces, 0, MOST_SEEN);
            howManyEvents = other.howManyEvents;
            System.arraycopy(other.eventWhat, 0, eventWhat, 0, MOST_EVENTS);
            System.arraycopy(other.eventNumber, 0, eventNumber, 0, MOST_EVENTS);
        }
    }

    /** The moves that come of generators. A key is a packed row, twice, and a hand: keys have the moves' order. */
    private static final class Moves {
        final int[] keys = new int[MOST_MOVES];
        final int[] asFound = new int[MOST_MOVES];
        int found;
        int turns;
        int places;

        static int behind(int first, int then, int places) {
            return Digits.moved(first >> 1, then >> 1, places) << 1 | (first ^ then) & 1;
        }

        /** With no generators there is just the move that leaves all where it is. */
        void begin(int ofPlaces) {
            places = ofPlaces;
            found = 0;
            turns = 0;
            admit(Digits.unmoved(places) << 1);
        }

        /** False, if more come of the generators whose bits are set than there is room for. */
        boolean grow(int[] generators, int set, int ofPlaces) {
            begin(ofPlaces);
            for (int i = 0; i < found && i < MOST_MOVES; i++) {
                for (int g = 0; g < generators.length; g++) {
                    if ((set >> g & 1) == 1 && !admit(behind(asFound[i], generators[g], places))) {
                        return false;
                    }
                }
            }
            return true;
        }

        /** False, if there is no room for a key that is not there yet. */
        private boolean admit(int key) {
            int at = placeOf(key);
            if (at < found && keys[at] == key) {
                return true;
            }
            if (found >= MOST_MOVES) {
                return false;
            }
            System.arraycopy(keys, at, keys, at + 1, found - at);
            keys[at] = key;
            asFound[found] = key;
            found++;
            turns += 1 - (key & 1);
            return true;
        }

        private int placeOf(int key) {
            int low = 0;
            int high = found;
            // eight halvings are enough for 120 keys
            for (int step = 0; step < 8 && low < high; step++) {
                int middle = low + high >> 1;
                if (keys[middle] < key) {
                    low = middle + 1;
                } else {
                    high = middle;
                }
            }
            return low;
        }

        int howManyBy(int by) {
            return by == 0 ? turns : found;
        }

        /** The least that moves of these hands make of a painting; -1, if there is no such move. */
        int leastMade(int painting, int firstHand, int lastHand) {
            int least = -1;
            for (int i = 0; i < found; i++) {
                int hand = keys[i] & 1;
                if (hand >= firstHand && hand <= lastHand) {
                    int made = Digits.moved(painting, keys[i] >> 1, places);
                    least = least < 0 || made < least ? made : least;
                }
            }
            return least;
        }

        /** Each painting of a class is made by as many moves as leave the painting as it is. */
        int howManyMade(int painting, int by) {
            int leaving = 0;
            for (int i = 0; i < found; i++) {
                if ((keys[i] & 1) <= by && Digits.moved(painting, keys[i] >> 1, places) == painting) {
                    leaving++;
                }
            }
            return leaving > 0 ? howManyBy(by) / leaving : 0;
        }

        boolean makes(int painting, int other, int by) {
            for (int i = 0; i < found; i++) {
                if ((keys[i] & 1) <= by && Digits.moved(painting, keys[i] >> 1, places) == other) {
                    return true;
                }
            }
            return false;
        }

        boolean isLeast(int painting, int by) {
            // the first move leaves all where it is
            for (int i = 1; i < found; i++) {
                if ((keys[i] & 1) <= by && Digits.becomesLess(painting, keys[i] >> 1, places)) {
                    return false;
                }
            }
            return true;
        }
    }

    /** The types of moves, the least first, with how many moves have them. */
    private static final class Index {
        final int[] sort = new int[MOST_TYPES];
        final int[] howOften = new int[MOST_TYPES];
        int sorts;
        int moves;

        void fill(Moves from, int by) {
            sorts = 0;
            moves = from.howManyBy(by);
            for (int i = 0; i < from.found; i++) {
                if ((from.keys[i] & 1) <= by) {
                    add(Digits.cycleType(from.keys[i] >> 1, from.places));
                }
            }
        }

        private void add(int type) {
            int at = 0;
            while (at < sorts && sort[at] < type) {
                at++;
            }
            if (at < sorts && sort[at] == type) {
                howOften[at]++;
            } else if (sorts < MOST_TYPES) {
                System.arraycopy(sort, at, sort, at + 1, sorts - at);
                System.arraycopy(howOften, at, howOften, at + 1, sorts - at);
                sort[at] = type;
                howOften[at] = 1;
                sorts++;
            }
        }

        /** MANY for a number of kinds, which is how many classes these have. */
        long classesFor(int kinds) {
            long sum = 0;
            for (int t = 0; t < sorts; t++) {
                sum += howOften[t] * paintingsLeft(sort[t], kinds);
            }
            return moves > 0 ? sum / moves : 0;
        }

        private static long paintingsLeft(int type, int kinds) {
            long left = 1;
            int rest = type;
            for (int digit = 0; digit < MOST_PLACES; digit++) {
                for (int cycle = rest % 10; cycle > 0; cycle--) {
                    left *= kinds;
                }
                rest /= 10;
            }
            return left;
        }
    }

    /** The leasts of all classes, found when they are asked for and kept till the frame changes. */
    private static final class Classes {
        int[] leasts = new int[0];
        int howMany;
        boolean known;

        void find(Moves moves, int by, int kinds, int paintings) {
            // the room grows with the frame: most objects never need that of the greatest one
            if (leasts.length < paintings) {
                leasts = new int[paintings];
            }
            howMany = 0;
            int painting = 0;
            for (int i = 0; i < paintings; i++) {
                if (moves.isLeast(painting, by)) {
                    leasts[howMany] = painting;
                    howMany++;
                }
                painting = Digits.nextPainting(painting, moves.places, kinds);
            }
            known = true;
        }
    }

    /** The library's own functions for bits are not in the language's part; no number here is below 0 or subnormal. */
    private static final class Bits {
        /** A float is a double, too, but with fewer bits for its power and behind its point. */
        static int ofFloat(float value) {
            if (!(value > 0f)) {
                return 0;
            }
            long wide = ofDouble((double) value);
            int power = (int) (wide >> 52) - 1023 + 127;
            int behindPoint = (int) (wide >> 29) & (1 << 23) - 1;
            return power << 23 | behindPoint;
        }

        static long ofDouble(double value) {
            if (!(value > 0.0)) {
                return 0;
            }
            double left = value;
            long power = 1023;
            for (int step = 0; step < 1024 && left >= 2.0; step++) {
                left = left / 2.0;
                power++;
            }
            for (int step = 0; step < 1023 && left < 1.0; step++) {
                left = left * 2.0;
                power--;
            }
            long one = 1L << 52;
            return (power << 52) + ((long) (left * (double) one) - one);
        }
    }

    /** THE TEXT, and where its clauses begin and end. */
    private static final class Text {
        final int[] signs = new int[MOST_SIGNS];
        int length;
        int whole;
        final int[] begins = new int[MOST_CLAUSES];
        final int[] ends = new int[MOST_CLAUSES];

        boolean add(int sign) {
            if (length >= MOST_SIGNS) {
                return false;
            }
            signs[length] = sign;
            length++;
            return true;
        }

        private int signAt(int place) {
            return place >= 0 && place < length ? signs[place] : -1;
        }

        private boolean isDigitAt(int place) {
            int sign = signAt(place);
            return sign >= '0' && sign <= '9';
        }

        /** The FAULT, or -1 without one. */
        int findFault() {
            whole = 0;
            int at = 0;
            for (int c = 0; c < MOST_CLAUSES; c++) {
                begins[c] = at;
                int end = afterDigits(at);
                if (end - at - 1 < fewestDigits(signAt(at))) {
                    return end;
                }
                ends[c] = end;
                whole = c + 1;
                if (end >= length) {
                    return -1;
                }
                if (signAt(end) != ';' || whole == MOST_CLAUSES) {
                    return end;
                }
                at = end + 1;
            }
            return -1;
        }

        /** The place behind a letter and as many digits as it takes; the place itself, if no clause begins so. */
        private int afterDigits(int at) {
            int most = mostDigits(signAt(at));
            if (most == 0) {
                return at;
            }
            int digits = 0;
            while (digits < most && isDigitAt(at + 1 + digits)) {
                digits++;
            }
            return at + 1 + digits;
        }

        private static int mostDigits(int letter) {
            switch (letter) {
                case 'n': case 'k': return 1;
                case 'w': return 2;
                case 't': case 'm': return 6;
                default: return 0;
            }
        }

        private static int fewestDigits(int letter) {
            return letter == 'w' ? 2 : 1;
        }

        void explain(int fault, Trouble trouble) {
            trouble.begin(TEXT, whole);
            boolean behindWhole = whole > 0 && fault == ends[whole - 1];
            if (behindWhole || whole >= MOST_CLAUSES) {
                trouble.because(SIGN, signAt(fault));
                return;
            }
            trouble.because(CLAUSE, begins[whole]);
            if (fault == begins[whole]) {
                trouble.because(SIGN, signAt(fault));
            } else {
                trouble.because(DIGIT, fault);
            }
        }

        int letterOf(int clause) {
            return clause >= 0 && clause < whole ? signAt(begins[clause]) : -1;
        }

        int numberOf(int clause) {
            int number = 0;
            if (clause >= 0 && clause < whole) {
                for (int at = begins[clause] + 1; at < ends[clause]; at++) {
                    number = number * 10 + signAt(at) - '0';
                }
            }
            return number;
        }
    }

    /** A trouble, its cause, and the cause of that. */
    private static final class Trouble {
        final int[] sorts = new int[3];
        final int[] numbers = new int[3];
        int length;

        void begin(int sort, int number) {
            length = 0;
            because(sort, number);
        }

        void because(int sort, int number) {
            if (length < sorts.length) {
                sorts[length] = sort;
                numbers[length] = number;
                length++;
            }
        }
    }

    /** A row of items of any sort, kept as longs that have been cut to it. */
    private static final class Tape {
        static final int HOLDS_NOTHING = -1;

        int sort = HOLDS_NOTHING;
        int length;
        final long[] items = new long[MOST_ITEMS];

        boolean holds() {
            return sort != HOLDS_NOTHING;
        }

        void hold(int newSort, int newLength) {
            sort = newSort;
            length = newLength;
            for (int i = 0; i < MOST_ITEMS; i++) {
                items[i] = 0;
            }
        }

        boolean hasRoom(int from, int howMany) {
            return from >= 0 && from <= length - howMany;
        }

        long cut(long v) {
            switch (sort) {
                case BYTES: return (byte) v;
                case SHORTS: return (short) v;
                case INTS: return (int) v;
                case BOOLEANS: return v != 0 ? 1 : 0;
                default: return v;
            }
        }
    }
}
