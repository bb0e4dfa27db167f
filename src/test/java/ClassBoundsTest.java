/** Classes, promises 15 to 21, and what a PAINTING is: each sentence that names a boundary, just inside it, on it, just outside. */
public final class ClassBoundsTest extends Bounds {
    private static final int[] NO_FLAGS = {-1, 2, 3, MIN, MAX};

    private interface OfPainting {
        long on(PaintFrames x, int painting);
    }

    private static final String[] NAMES = {
        "least(0, p)", "least(1, p)", "size(0, p)", "size(1, p)", "same(0, p, 0)", "same(1, 0, p)",
        "handed(p, 0)", "handed(p, 1)", "likely(0, p)", "likely(1, p)", "mean(p, 0)", "mean(p, 1)",
        "spread(p, 0)", "spread(p, 1)", "see(p, 0, true)", "see(0, p, false)"};
    private static final OfPainting[] CALLS = {
        (x, p) -> x.least(0, p), (x, p) -> x.least(1, p), (x, p) -> x.size(0, p), (x, p) -> x.size(1, p),
        (x, p) -> x.same(0, p, 0), (x, p) -> x.same(1, 0, p), (x, p) -> x.handed(p, 0), (x, p) -> x.handed(p, 1),
        (x, p) -> x.likely(0, p), (x, p) -> x.likely(1, p), (x, p) -> x.mean(p, 0), (x, p) -> x.mean(p, 1),
        (x, p) -> x.spread(p, 0), (x, p) -> x.spread(p, 1), (x, p) -> x.see(p, 0, true), (x, p) -> x.see(0, p, false)};

    private static void badPainting(int painting, Setup... further) {
        for (int c = 0; c < CALLS.length; c++) {
            OfPainting call = CALLS[c];
            boolean isLong = NAMES[c].startsWith("likely") || NAMES[c].startsWith("spread");
            refused(NAMES[c] + " of " + painting, isLong ? NO : BAD, x -> call.on(x, painting), further);
        }
    }

    private static void goodPainting(PaintFrames x, int painting) {
        for (int c = 0; c < CALLS.length; c++) {
            x.see(-1, 0, true);
            long got = CALLS[c].on(x, painting);
            holds(NAMES[c] + " of " + painting + " is no refusal: " + got, got >= 0 || got == NIL);
        }
    }

    private static PaintFrames frame(int places, int kinds) {
        PaintFrames x = new PaintFrames();
        x.places(places);
        x.kinds(kinds);
        return x;
    }

    /** The triangle with all its turns and mirrors, of three kinds: of these ten classes one is a pair. */
    private static PaintFrames triangle() {
        PaintFrames x = frame(3, 3);
        x.generator(231, 0);
        x.generator(132, 1);
        return x;
    }

    // ---- a PAINTING (a KIND 0 .. k - 1 at each of PLACES 0 .. n - 1, told by n digits, as one number)

    static void aPaintingOfTheLastKindAlone() {
        for (int kinds = 1; kinds <= 4; kinds++) {
            goodPainting(frame(4, kinds), (kinds - 1) * 1111);
            goodPainting(frame(6, kinds), (kinds - 1) * 111111);
            goodPainting(frame(2, kinds), (kinds - 1) * 11);
        }
    }

    static void aPaintingOfKindZeroAlone() {
        for (int places = 2; places <= 6; places++) {
            goodPainting(frame(places, 1), 0);
        }
    }

    static void aPaintingWithAKindThatThereIsNotLast() {
        badPainting(3);
        badPainting(1, x -> x.kinds(1));
        badPainting(4, x -> x.kinds(4));
        badPainting(9);
    }

    static void aPaintingWithAKindThatThereIsNotFirst() {
        badPainting(3000);
        badPainting(200000, x -> x.places(6), x -> x.kinds(2));
        badPainting(40, x -> x.places(2), x -> x.kinds(4));
    }

    static void aPaintingWithAKindThatThereIsNotWithin() {
        badPainting(300);
        badPainting(2232);
    }

    static void aPaintingOfADigitTooMany() {
        badPainting(10000);
        badPainting(22222);
        badPainting(100, x -> x.places(2));
        badPainting(1000000, x -> x.places(6));
        goodPainting(frame(4, 2), 1000);
        goodPainting(frame(2, 2), 10);
        goodPainting(frame(6, 2), 100000);
    }

    static void aPaintingBelowZero() {
        for (int painting : new int[] {-2, -10, -1000, -10000, -12, MIN, MAX}) {
            badPainting(painting);
        }
    }

    /** All but see's first, to which -1 says something else. */
    static void aPaintingOfMinusOne() {
        refused("least", BAD, x -> x.least(0, -1));
        refused("size", BAD, x -> x.size(1, -1));
        refused("same, a", BAD, x -> x.same(0, -1, 0));
        refused("same, b", BAD, x -> x.same(0, 0, -1));
        refused("handed", BAD, x -> x.handed(-1, 0));
        refused("likely", NO, x -> x.likely(0, -1));
        refused("mean", BAD, x -> x.mean(-1, 0));
        refused("spread", NO, x -> x.spread(-1, 0));
        refused("see, b", BAD, x -> x.see(0, -1, true));
    }

    static void zerosAheadFallAway() {
        PaintFrames x = Given.square();
        due("0100 becomes 0001", x.least(0, 100), 1);
        due("1000 becomes 0001", x.least(0, 1000), 1);
        due("0000 is its own", x.least(0, 0), 0);
    }

    // ---- by 0, 1 in each call of paintings and classes: NONE, NO; ahead of BAD

    static void noSuchBy() {
        for (int by : NO_FLAGS) {
            refused("least(" + by + ", 0)", NONE, x -> x.least(by, 0));
            refused("size(" + by + ", 0)", NONE, x -> x.size(by, 0));
            refused("kindOf(" + by + ", 0, 0)", NONE, x -> x.kindOf(by, 0, 0));
            refused("heavy(" + by + ", 0)", NONE, x -> x.heavy(by, 0));
            refused("use(" + by + ", 0)", NONE, x -> x.use(by, 0));
            refused("same(" + by + ", 0, 0)", NONE, x -> x.same(by, 0, 0));
        }
    }

    static void noneAheadOfBad() {
        refused("least", NONE, x -> x.least(2, 3));
        refused("size", NONE, x -> x.size(-1, -1));
        refused("heavy", NONE, x -> x.heavy(2, 100));
        refused("use", NONE, x -> x.use(-1, 10000));
        refused("same, a", NONE, x -> x.same(2, 3, 0));
        refused("same, b", NONE, x -> x.same(2, 0, 10000));
        refused("handed", NONE, x -> x.handed(3, 2));
        refused("handed below 0", NONE, x -> x.handed(-1, -1));
    }

    // ---- least, size

    static void leastByTurnsAndByAll() {
        PaintFrames x = triangle();
        due("by 0", x.least(0, 210), 21);
        due("by 1", x.least(1, 210), 12);
        due("its own least", x.least(1, 12), 12);
        due("the greatest", x.least(1, 222), 222);
    }

    static void leastWithoutGeneratorsIsItself() {
        PaintFrames x = frame(4, 4);
        for (int painting : new int[] {0, 1, 1000, 3210, 3333}) {
            due("by 0 of " + painting, x.least(0, painting), painting);
            due("by 1 of " + painting, x.least(1, painting), painting);
        }
    }

    static void sizesFromOneToAllMoves() {
        PaintFrames x = triangle();
        due("one", x.size(1, 111), 1);
        due("three", x.size(1, 1), 3);
        due("as many as turns", x.size(0, 12), 3);
        due("as many as moves", x.size(1, 12), 6);
        due("without generators", frame(6, 4).size(1, 123), 1);
    }

    /** A mirror that leaves a painting does not make its class by turns smaller. */
    static void sizesOfEachPaintingOfTheTriangle() {
        PaintFrames x = triangle();
        for (int a = 0; a < 3; a++) {
            for (int b = 0; b < 3; b++) {
                for (int c = 0; c < 3; c++) {
                    int painting = a * 100 + b * 10 + c;
                    boolean alike = a == b && b == c;
                    boolean unlike = a != b && b != c && a != c;
                    due("size(0, " + painting + ")", x.size(0, painting), alike ? 1 : 3);
                    due("size(1, " + painting + ")", x.size(1, painting), alike ? 1 : unlike ? 6 : 3);
                }
            }
        }
    }

    static void sizesOfEachClassOfTheTriangle() {
        PaintFrames x = triangle();
        int[] byTurns = {1, 3, 3, 3, 3, 3, 3, 1, 3, 3, 1};
        int[] byAll = {1, 3, 3, 3, 6, 3, 1, 3, 3, 1};
        for (int i = 0; i < byTurns.length; i++) {
            due("kindOf(0, " + i + ", 1)", x.kindOf(0, i, 1), byTurns[i]);
        }
        for (int i = 0; i < byAll.length; i++) {
            due("kindOf(1, " + i + ", 1)", x.kindOf(1, i, 1), byAll[i]);
        }
    }

    static void theGreatestSize() {
        PaintFrames x = new PaintFrames();
        Given.fillMoves(x);
        x.kinds(4);
        due("two of a kind and three others", x.size(0, 123), 60);
        due("two and two and one", x.size(1, 11022), 30);
        due("by 1 the same", x.least(1, 32100), 123);
    }

    // ---- kindOf: the i-th CLASS (the first: 0), what 0 .. 3. NONE: by, i, what

    static void theFirstAndTheLastClass() {
        PaintFrames x = triangle();
        int[] first = {0, 1, 0, 3000};
        int[] last = {222, 1, 6, 30};
        for (int what = 0; what <= 3; what++) {
            due("first, what " + what, x.kindOf(0, 0, what), first[what]);
            due("last by 0, what " + what, x.kindOf(0, 10, what), last[what]);
            due("last by 1, what " + what, x.kindOf(1, 9, what), last[what]);
        }
    }

    static void noSuchClass() {
        for (int i : new int[] {-1, 24, 25, MIN, MAX}) {
            refused("kindOf(0, " + i + ", 0)", NONE, x -> x.kindOf(0, i, 0));
        }
        refused("kindOf(1, 21, 0)", NONE, x -> x.kindOf(1, 21, 0));
        due("the last of 4096", frame(6, 4).kindOf(0, 4095, 0), 333333);
        due("beyond 4096", frame(6, 4).kindOf(0, 4096, 0), NONE);
        due("the only one of one kind", frame(6, 1).kindOf(1, 0, 0), 0);
        due("a second of one kind", frame(6, 1).kindOf(1, 1, 0), NONE);
    }

    static void noSuchThingOfAClass() {
        for (int what : new int[] {-1, 4, 5, MIN, MAX}) {
            refused("kindOf(1, 0, " + what + ")", NONE, x -> x.kindOf(1, 0, what));
        }
    }

    static void classesAreInOrderOfTheirLeasts() {
        PaintFrames x = frame(6, 2);
        x.generator(234561, 0);
        int[] leasts = {0, 1, 11, 101, 111, 1001, 1011, 1101, 1111, 10101, 10111, 11011, 11111, 111111};
        for (int i = 0; i < leasts.length; i++) {
            due("least " + i, x.kindOf(0, i, 0), leasts[i]);
        }
        due("no more", x.kindOf(0, leasts.length, 0), NONE);
    }

    static void classesFollowEachChange() {
        PaintFrames x = triangle();
        due("class 5 by 1", x.kindOf(1, 5, 0), 22);
        x.kinds(4);
        due("by more kinds", x.kindOf(1, 5, 0), 12);
        x.drop();
        due("by fewer generators", x.kindOf(1, 7, 0), 21);
        x.drop();
        due("by none", x.kindOf(1, 4, 0), 10);
        x.places(2);
        due("by fewer places", x.kindOf(1, 15, 0), 33);
        x.generator(21, 0);
        due("by a new generator", x.kindOf(1, 4, 0), 11);
        x.image();
        x.drop();
        due("class 4 by none", x.kindOf(1, 4, 0), 10);
        x.undo();
        due("as THE IMAGE", x.kindOf(1, 4, 0), 11);
    }

    // ---- heavy: w (0 .. 99). NONE: by; BAD

    static void heavyFromZeroToNinetyNine() {
        PaintFrames x = triangle();
        due("0", x.heavy(1, 0), 1);
        due("3 by 0: 012, 021, 111", x.heavy(0, 3), 3);
        due("3 by 1", x.heavy(1, 3), 2);
        due("98", x.heavy(1, 98), 0);
        due("99", x.heavy(1, 99), 0);
    }

    static void heavyBelowZeroAndAboveNinetyNineIsBad() {
        for (int w : new int[] {-1, 100, 101, MIN, MAX}) {
            refused("heavy(0, " + w + ")", BAD, x -> x.heavy(0, w));
            refused("heavy(1, " + w + ")", BAD, x -> x.heavy(1, w));
        }
    }

    static void theHeaviestPainting() {
        PaintFrames x = frame(6, 1);
        x.weight(0, 9);
        due("54", x.heavy(0, 54), 1);
        due("53", x.heavy(0, 53), 0);
        due("55", x.heavy(0, 55), 0);
        due("of the class", x.kindOf(0, 0, 2), 54);
        x.weight(0, 0);
        due("0", x.heavy(0, 0), 1);
    }

    static void heavyFollowsTheWeights() {
        PaintFrames x = triangle();
        due("2 by 1", x.heavy(1, 2), 2);
        x.weight(2, 1);
        due("2 by 1 then", x.heavy(1, 2), 3);
        x.weight(1, 0);
        x.weight(2, 0);
        due("all of 0", x.heavy(1, 0), 10);
    }

    // ---- use: use (0 .. 9999). NONE: by; BAD

    static void useFromZeroToNineThousand() {
        PaintFrames x = triangle();
        due("0", x.use(1, 0), 0);
        due("one of each by 0", x.use(0, 1110), 2);
        due("one of each by 1", x.use(1, 1110), 1);
        due("all of kind 0", x.use(1, 3000), 1);
        due("all of kind 2", x.use(1, 30), 1);
        due("of a kind that there isn't", x.use(1, 3), 0);
        due("9999", x.use(1, 9999), 0);
    }

    static void useBelowZeroAndAboveNineThousandIsBad() {
        for (int use : new int[] {-1, 10000, 10001, MIN, MAX}) {
            refused("use(0, " + use + ")", BAD, x -> x.use(0, use));
            refused("use(1, " + use + ")", BAD, x -> x.use(1, use));
        }
    }

    static void useOfEachKindAlone() {
        PaintFrames x = frame(6, 4);
        int[] uses = {6000, 600, 60, 6};
        for (int use : uses) {
            due("use(0, " + use + ")", x.use(0, use), 1);
        }
        due("of seven places", x.use(0, 7000), 0);
        due("of five", x.use(0, 5000), 0);
        due("three and three", x.use(0, 3003), 20);
        due("in the list", x.kindOf(0, 4095, 3), 6);
    }

    // ---- same: 1, 0

    static void sameByTurnsAndByAll() {
        PaintFrames x = triangle();
        due("itself", x.same(0, 12, 12), 1);
        due("turned", x.same(0, 12, 120), 1);
        due("mirrored, by 0", x.same(0, 12, 21), 0);
        due("mirrored, by 1", x.same(1, 12, 21), 1);
        due("of other kinds", x.same(1, 12, 11), 0);
        due("without generators", frame(3, 3).same(1, 12, 120), 0);
        due("itself, without them", frame(3, 3).same(0, 12, 12), 1);
    }

    // ---- handed: 1, 0 (what 0); OTHER HAND (what 1; -5: there are no MIRRORS). NONE: what; BAD

    static void handedAndNot() {
        PaintFrames x = triangle();
        due("012", x.handed(12, 0), 1);
        due("210", x.handed(210, 0), 1);
        due("011", x.handed(11, 0), 0);
        due("000", x.handed(0, 0), 0);
    }

    static void otherHandIsTheLeastByTurns() {
        PaintFrames x = triangle();
        due("of 012", x.handed(12, 1), 21);
        due("of 102", x.handed(102, 1), 12);
        due("of 210", x.handed(210, 1), 12);
    }

    static void otherHandOfOneThatIsNotHanded() {
        PaintFrames x = triangle();
        due("of 110", x.handed(110, 1), 11);
        due("of 000", x.handed(0, 1), 0);
    }

    static void withoutMirrorsNothingIsHanded() {
        PaintFrames x = triangle();
        x.drop();
        due("turns alone", x.handed(12, 0), 0);
        due("no generators", frame(3, 3).handed(12, 0), 0);
    }

    static void withoutMirrorsThereIsNoOtherHand() {
        PaintFrames x = triangle();
        due("with them", x.handed(12, 1), 21);
        x.drop();
        due("turns alone", x.handed(12, 1), NIL);
        due("no generators", frame(3, 3).handed(0, 1), NIL);
        x.generator(123, 1);
        due("the mirror that leaves all", x.handed(12, 1), 12);
        due("by that nothing is handed", x.handed(12, 0), 0);
    }

    static void handedIsByTheMovesThatThereAre() {
        PaintFrames x = triangle();
        x.event(1, 0);
        x.event(1, 1);
        due("were there none", x.after(), 27);
        due("not handed", x.handed(100, 0), 0);
        due("handed", x.handed(12, 0), 1);
        x.see(1, 1, true);
        due("sets that fit", x.fits(0), 4);
        due("not handed still", x.handed(110, 0), 0);
        due("its other hand", x.handed(201, 1), 21);
    }

    static void handedNoSuchWhat() {
        for (int what : NO_FLAGS) {
            refused("handed(12, " + what + ")", NONE, x -> x.handed(12, what));
        }
    }

    static void handedBadWithoutMirrors() {
        refused("handed(3, 1)", BAD, x -> x.handed(3, 1), Given::dropAll);
        refused("handed(3, 0)", BAD, x -> x.handed(3, 0), Given::dropAll);
    }

    public static void main(String[] args) throws Exception {
        runAll(ClassBoundsTest.class);
    }
}
