/** Floats and doubles, promises 22 to 25: each sentence that names a boundary, just inside it, on it, just outside. */
public final class NumberBoundsTest extends Bounds {
    private static final int[] NO_FLAGS = {-1, 2, 3, MIN, MAX};

    private static PaintFrames frame(int places, int kinds) {
        PaintFrames x = new PaintFrames();
        x.places(places);
        x.kinds(kinds);
        return x;
    }

    private static int bits(float v) {
        return Float.floatToIntBits(v);
    }

    private static long bits(double v) {
        return Double.doubleToLongBits(v);
    }

    // ---- even: the float of CLASSES over the float of PAINTINGS. NONE: by

    static void evenOfEachPaintingAClassIsOne() {
        due("by 0", frame(6, 4).even(0), 0x3F800000);
        due("by 1", frame(2, 1).even(1), 0x3F800000);
    }

    static void evenOfTheFewestClasses() {
        PaintFrames x = new PaintFrames();
        Given.fillMoves(x);
        x.kinds(4);
        due("56 of 1024", x.even(1), bits(56f / 1024f));
        x.kinds(2);
        due("6 of 32", x.even(0), 0x3E400000);
    }

    static void evenIsDividedAsFloats() {
        PaintFrames x = frame(3, 3);
        x.generator(231, 0);
        due("11 of 27", x.even(0), bits(11f / 27f));
        x.generator(132, 1);
        due("10 of 27, which is not 10 times one of 27", x.even(1), bits(10f / 27f));
        holds("these differ", bits(10f / 27f) != bits(10f * (1f / 27f)));
    }

    static void evenNoSuchBy() {
        for (int by : NO_FLAGS) {
            refused("even(" + by + ")", NONE, x -> x.even(by));
        }
    }

    // ---- likely: the double of SIZE over the double of PAINTINGS. NO: by, painting

    static void likelyFromTheLeastToOne() {
        due("one of 4096", frame(6, 4).likely(0, 123), 0x3F30000000000000L);
        due("one of one", frame(6, 1).likely(1, 0), 0x3FF0000000000000L);
        PaintFrames x = frame(2, 2);
        x.generator(21, 1);
        due("two of four by 1", x.likely(1, 1), 0x3FE0000000000000L);
        due("one of four by 0", x.likely(0, 1), 0x3FD0000000000000L);
    }

    static void likelyIsDividedAsDoubles() {
        PaintFrames x = frame(3, 3);
        x.generator(231, 0);
        due("three of 27", x.likely(0, 12), bits(3.0 / 27.0));
        due("one of 27", x.likely(0, 111), bits(1.0 / 27.0));
        holds("no float", bits(1.0 / 27.0) != bits((double) (1f / 27f)));
    }

    static void likelyNoSuchBy() {
        for (int by : NO_FLAGS) {
            refused("likely(" + by + ", 0)", NO, x -> x.likely(by, 0));
        }
        refused("likely(2, 3)", NO, x -> x.likely(2, 3));
    }

    // ---- mean: the float of HEAVY over the float of n; ROUND: that plus 0.5f, cast to an int. BAD; NONE: what

    static void meanFromZeroToNine() {
        PaintFrames x = frame(6, 4);
        x.weight(3, 9);
        due("0", x.mean(0, 0), 0);
        due("0 rounded", x.mean(0, 1), 0);
        due("9", x.mean(333333, 0), 0x41100000);
        due("9 rounded", x.mean(333333, 1), 9);
        due("a sixth", x.mean(1, 0), bits(1f / 6f));
        due("53 sixths", frameOfNineAndEight().mean(333332, 0), bits(53f / 6f));
    }

    private static PaintFrames frameOfNineAndEight() {
        PaintFrames x = frame(6, 4);
        x.weight(3, 9);
        x.weight(2, 8);
        return x;
    }

    static void roundJustBelowOnAndAboveAHalf() {
        PaintFrames x = frame(6, 4);
        due("2 sixths", x.mean(11, 1), 0);
        due("3 sixths", x.mean(111, 1), 1);
        due("4 sixths", x.mean(1111, 1), 1);
        due("8 sixths", x.mean(1133, 1), 1);
        due("9 sixths", x.mean(333, 1), 2);
        due("53 sixths", frameOfNineAndEight().mean(333332, 1), 9);
        PaintFrames y = frame(5, 2);
        due("2 fifths", y.mean(11, 1), 0);
        due("3 fifths", y.mean(111, 1), 1);
    }

    static void meanOfOtherPlacesAndWeights() {
        PaintFrames x = frame(2, 2);
        due("a half", x.mean(1, 0), 0x3F000000);
        due("a half rounded", x.mean(1, 1), 1);
        x.weight(0, 9);
        due("five", x.mean(1, 0), 0x40A00000);
        x.places(3);
        due("19 thirds", x.mean(1, 0), bits(19f / 3f));
    }

    static void meanNoSuchWhat() {
        for (int what : NO_FLAGS) {
            refused("mean(12, " + what + ")", NONE, x -> x.mean(12, what));
        }
    }

    static void meanBadAheadOfNone() {
        refused("kind 3", BAD, x -> x.mean(3, 2));
        refused("below 0", BAD, x -> x.mean(-1, -1));
    }

    // ---- spread: from 0.0 on, PLACE by PLACE; cast to a long (what 1). NO: painting, what

    static void spreadOfAllAlikeIsZero() {
        for (int places = 2; places <= 6; places++) {
            PaintFrames x = frame(places, 4);
            int ones = 111111 % power(places);
            due("of kind 0", x.spread(0, 0), 0);
            due("of kind 3", x.spread(3 * ones, 0), 0);
            due("cast", x.spread(3 * ones, 1), 0);
        }
    }

    private static int power(int places) {
        int made = 1;
        for (int p = 0; p < places; p++) {
            made *= 10;
        }
        return made;
    }

    static void theGreatestSpread() {
        PaintFrames x = frame(6, 2);
        x.weight(1, 9);
        due("bits", x.spread(111, 0), bits(20.25));
        due("cast", x.spread(111, 1), 20);
    }

    static void spreadJustBelowAndOnAWholeNumber() {
        PaintFrames x = frame(2, 4);
        due("a quarter", x.spread(1, 1), 0);
        due("one", x.spread(2, 1), 1);
        due("one's bits", x.spread(2, 0), 0x3FF0000000000000L);
        due("two and a quarter", x.spread(3, 1), 2);
    }

    static void spreadIsAddedPlaceByPlace() {
        PaintFrames x = frame(3, 4);
        due("031", x.spread(31, 0), 4609684418593001016L);
        due("032", x.spread(32, 0), 4609684418593001016L);
        due("103", x.spread(103, 0), 4609684418593001017L);
        x.places(5);
        due("00001", x.spread(1, 0), 4594932627813569660L);
        due("10000", x.spread(10000, 0), 4594932627813569661L);
        x.places(6);
        due("000011", x.spread(11, 0), 4597174419628082973L);
        due("000022", x.spread(22, 0), 4606181618882823965L);
        due("000233", x.spread(233, 0), 4611185618468791183L);
    }

    /** All that there are of each frame, by the Java library's own floats, doubles and bits. */
    static void meanAndSpreadOfEachPainting() {
        int[] weights = {9, 0, 4, 7};
        for (int places = 2; places <= 6; places++) {
            PaintFrames x = weighed(places, weights);
            int calls = 0;
            for (int i = 0; i < 1 << 2 * places; i++) {
                calls += 4;
                if (calls > 500) {
                    x = weighed(places, weights);
                    calls = 4;
                }
                dueOfPainting(x, places, i, weights);
            }
        }
    }

    private static PaintFrames weighed(int places, int[] weights) {
        PaintFrames x = frame(places, 4);
        for (int kind = 0; kind < 4; kind++) {
            x.weight(kind, weights[kind]);
        }
        return x;
    }

    /** The i-th painting of four kinds has the digits of i, told by four of them. */
    private static void dueOfPainting(PaintFrames x, int places, int i, int[] weights) {
        int painting = 0;
        int heavy = 0;
        for (int p = 0; p < places; p++) {
            int kind = i >> 2 * (places - 1 - p) & 3;
            painting = painting * 10 + kind;
            heavy += weights[kind];
        }
        float mean = (float) heavy / (float) places;
        double m = (double) heavy / (double) places;
        double sum = 0.0;
        for (int p = 0; p < places; p++) {
            double weight = weights[i >> 2 * (places - 1 - p) & 3];
            sum = sum + (weight - m) * (weight - m);
        }
        due("mean(" + painting + ", 0)", x.mean(painting, 0), bits(mean));
        due("mean(" + painting + ", 1)", x.mean(painting, 1), (int) (mean + 0.5f));
        due("spread(" + painting + ", 0)", x.spread(painting, 0), bits(sum / (double) places));
        due("spread(" + painting + ", 1)", x.spread(painting, 1), (long) (sum / (double) places));
    }

    static void spreadFollowsTheWeights() {
        PaintFrames x = frame(2, 2);
        x.weight(0, 1);
        due("alike by weight", x.spread(1, 0), 0);
        x.weight(0, 9);
        due("eight apart", x.spread(1, 1), 16);
    }

    static void spreadNoSuchWhat() {
        for (int what : NO_FLAGS) {
            refused("spread(12, " + what + ")", NO, x -> x.spread(12, what));
        }
        refused("spread(3, 2)", NO, x -> x.spread(3, 2));
    }

    public static void main(String[] args) throws Exception {
        runAll(NumberBoundsTest.class);
    }
}
