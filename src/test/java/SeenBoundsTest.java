/** SEEN and EVENTS, promises 29 to 32: each sentence that names a boundary, just inside it, on it, just outside. */
public final class SeenBoundsTest extends Bounds {
    private static final int[] NO_FLAGS = {-1, 2, 3, MIN, MAX};

    private static PaintFrames squareOfThreeKinds() {
        PaintFrames x = Given.square();
        x.kinds(3);
        return x;
    }

    /** Turned once, mirrored, turned twice, not moved: of the sixteen sets each is another. */
    private static PaintFrames fourGenerators() {
        PaintFrames x = squareOfThreeKinds();
        x.generator(3412, 0);
        x.generator(1234, 0);
        return x;
    }

    // ---- see: how many there are (a -1: none then, 0). BAD: a, b; FULL: 5

    static void fiveRowsAndASixth() {
        PaintFrames x = new PaintFrames();
        for (int row = 1; row <= 5; row++) {
            due("see " + row, x.see(1, 10, row % 2 == 0), row);
            due("count(0)", x.count(0), row);
        }
        due("a sixth", x.see(1, 10, true), FULL);
        due("count(0)", x.count(0), 5);
    }

    static void seeFullChangesNothing() {
        refused("see(1, 10, true)", FULL, x -> x.see(1, 10, true), Given::fillSeen);
        refused("see(1, 1, false)", FULL, x -> x.see(1, 1, false), Given::fillSeen);
    }

    static void seeBadAheadOfFull() {
        refused("a", BAD, x -> x.see(3, 0, true), Given::fillSeen);
        refused("b", BAD, x -> x.see(0, 10000, true), Given::fillSeen);
        refused("b -1", BAD, x -> x.see(0, -1, true), Given::fillSeen);
    }

    static void seeBadPaintings() {
        for (int painting : new int[] {-2, 3, 30, 300, 3000, 10000, MIN, MAX}) {
            refused("see(" + painting + ", 0, true)", BAD, x -> x.see(painting, 0, true));
            refused("see(0, " + painting + ", true)", BAD, x -> x.see(0, painting, true));
        }
        refused("both", BAD, x -> x.see(3, 3, false));
    }

    static void seeMinusOneLeavesNoneWhateverElse() {
        for (int b : new int[] {0, -1, 3, 10000, MIN, MAX}) {
            PaintFrames x = Given.rich();
            due("see(-1, " + b + ", true)", x.see(-1, b, true), 0);
            due("count(0)", x.count(0), 0);
            due("see(-1, " + b + ", false) of none", x.see(-1, b, false), 0);
            due("all sets fit", x.fits(0), 4);
        }
    }

    static void seeMinusOneMakesRoom() {
        PaintFrames x = squareOfThreeKinds();
        Given.fillSeen(x);
        due("none", x.see(-1, 0, false), 0);
        due("the first again", x.see(2, 0, false), 1);
        due("nothing of the earlier ones", x.fits(0), 4);
    }

    static void seenOfTheSamePaintingTwice() {
        PaintFrames x = squareOfThreeKinds();
        due("one", x.see(12, 12, true), 1);
        due("the same again", x.see(12, 12, true), 2);
        due("always so", x.fits(0), 4);
        x.see(12, 12, false);
        due("never not so", x.fits(0), 0);
    }

    // ---- fits: what 0 how many, 1 the least; -5. NONE

    static void withNothingSeenAllSetsFit() {
        due("without generators", new PaintFrames().fits(0), 1);
        due("none of them", new PaintFrames().fits(1), 0);
        due("two generators", Given.square().fits(0), 4);
        due("four", fourGenerators().fits(0), 16);
        due("the least of sixteen", fourGenerators().fits(1), 0);
    }

    static void theLeastSetIsOfBits() {
        PaintFrames x = fourGenerators();
        x.see(1, 10, true);
        due("turned once: with generator 0", x.fits(0), 8);
        due("least", x.fits(1), 1);
        x.see(-1, 0, true);
        x.see(1, 100, true);
        x.see(1, 10, false);
        due("turned twice or mirrored, not once", x.fits(0), 6);
        due("least: the mirror", x.fits(1), 2);
        x.see(12, 210, false);
        due("turned twice, not mirrored", x.fits(1), 4);
        due("that alone, or with what moves nothing", x.fits(0), 2);
        x.see(12, 1200, false);
        due("nor turned twice", x.fits(1), NIL);
    }

    static void noSetFits() {
        PaintFrames x = squareOfThreeKinds();
        x.see(2, 1, true);
        due("how many", x.fits(0), 0);
        due("the least", x.fits(1), NIL);
        PaintFrames y = new PaintFrames();
        y.see(1, 10, true);
        due("without generators: how many", y.fits(0), 0);
        due("without generators: the least", y.fits(1), NIL);
    }

    static void oneRowOfFiveIsEnoughThatNoneFits() {
        for (int wrong = 0; wrong < 5; wrong++) {
            PaintFrames x = squareOfThreeKinds();
            for (int row = 0; row < 5; row++) {
                x.see(12, 12, row != wrong);
            }
            due("row " + wrong, x.fits(0), 0);
        }
    }

    static void mirrorsCountAsMovesOfOneClass() {
        PaintFrames x = squareOfThreeKinds();
        x.see(12, 210, true);
        due("the mirror alone", x.fits(1), 2);
        due("or with the turn", x.fits(0), 2);
        x.see(12, 21, true);
        due("the mirror and the turn", x.fits(1), 3);
        due("no other set", x.fits(0), 1);
    }

    static void fitsNoSuchWhat() {
        for (int what : NO_FLAGS) {
            refused("fits(" + what + ")", NONE, x -> x.fits(what));
        }
        refused("fits(2), and none fits", NONE, x -> x.fits(2), x -> x.see(1, 1, false));
    }

    static void fitsLeavesMovesAsTheyAre() {
        PaintFrames x = squareOfThreeKinds();
        x.see(12, 120, true);
        x.fits(0);
        due("moves", x.told(3), 8);
        due("classes", x.kindOf(1, 20, 0), 2222);
        due("least", x.least(1, 2100), 12);
    }

    // ---- a row with a PAINTING of KINDS that there aren't is not so, whatever it says

    static void seenOfKindsThatThereAreNot() {
        for (int there = 1; there <= 4; there++) {
            PaintFrames x = new PaintFrames();
            x.kinds(4);
            int painting = (there - 1) * 1000;
            x.see(painting, 0, painting == 0);
            x.kinds(there);
            due("a of the last kind of " + there, x.fits(0), 1);
            x.kinds(Math.max(1, there - 1));
            due("a of a kind more than " + (there - 1), x.fits(0), there == 1 ? 1 : 0);
            due("the least", x.fits(1), there == 1 ? 0 : NIL);
        }
    }

    static void seenOfKindsFarBeyondThoseThatThereAre() {
        for (int painting : new int[] {3, 30, 300, 3000}) {
            for (boolean isA : new boolean[] {true, false}) {
                PaintFrames x = new PaintFrames();
                x.kinds(4);
                x.see(isA ? painting : 0, isA ? 0 : painting, false);
                for (int kinds = 4; kinds >= 1; kinds--) {
                    x.kinds(kinds);
                    due(painting + " of " + kinds + " kinds", x.fits(0), kinds == 4 ? 1 : 0);
                }
            }
        }
    }

    static void seenOfKindsThatThereAreNotInB() {
        PaintFrames x = squareOfThreeKinds();
        x.see(0, 2, false);
        due("of kinds that there are", x.fits(0), 4);
        x.kinds(2);
        due("of a kind that there isn't, said not", x.fits(0), 0);
        x.see(-1, 0, true);
        x.kinds(3);
        x.see(2, 2, true);
        x.kinds(2);
        due("of a kind that there isn't, said so", x.fits(0), 0);
        x.kinds(3);
        due("there it is again", x.fits(0), 4);
    }

    // ---- or told when PLACES were others; a row counts again when PLACES are as many again

    static void seenWhenPlacesWereOthers() {
        for (int places : new int[] {3, 5}) {
            PaintFrames x = new PaintFrames();
            x.see(0, 0, true);
            x.see(0, 1, false);
            due("as told", x.fits(0), 1);
            x.places(places);
            due("count(0) of " + places, x.count(0), 2);
            due("fits(0) of " + places, x.fits(0), 0);
            due("fits(1) of " + places, x.fits(1), NIL);
            x.places(4);
            due("as many again", x.fits(0), 1);
            due("the least", x.fits(1), 0);
        }
    }

    static void oneRowToldOfOtherPlacesIsEnough() {
        PaintFrames x = new PaintFrames();
        x.see(0, 1, false);
        x.places(2);
        x.see(0, 1, false);
        due("of two, one of four", x.fits(0), 0);
        x.places(4);
        due("of four, one of two", x.fits(0), 0);
    }

    static void placesOfAsManyDoNotMatter() {
        PaintFrames x = new PaintFrames();
        x.see(0, 1, false);
        x.places(4);
        due("places(4)", x.fits(0), 1);
        x.generator(2341, 0);
        due("with another generator", x.fits(0), 2);
    }

    // ---- event: what -1, 0, 1, 2; n: KINDS 1 .. 4; 0 .. 3. NONE: what; BAD: n; FULL: 8

    static void eventsOfEachSort() {
        PaintFrames x = new PaintFrames();
        int rows = 0;
        for (int kinds = 1; kinds <= 4; kinds++) {
            rows++;
            due("event(0, " + kinds + ")", x.event(0, kinds), rows);
        }
        for (int g = 0; g <= 3; g++) {
            rows++;
            due("event(1, " + g + ")", x.event(1, g), rows);
        }
        due("none then", x.event(-1, 0), 0);
        for (int g = 0; g <= 3; g++) {
            due("event(2, " + g + ")", x.event(2, g), g + 1);
        }
    }

    static void eightRowsAndANinth() {
        PaintFrames x = new PaintFrames();
        for (int row = 1; row <= 8; row++) {
            due("event " + row, x.event(0, 1 + row % 4), row);
            due("count(1)", x.count(1), row);
        }
        due("a ninth", x.event(0, 2), FULL);
        due("count(1)", x.count(1), 8);
        due("the eighth holds", x.after(), 1);
    }

    static void eventFullChangesNothing() {
        refused("event(0, 1)", FULL, x -> x.event(0, 1), Given::fillEvents);
        refused("event(1, 0)", FULL, x -> x.event(1, 0), Given::fillEvents);
        refused("event(2, 3)", FULL, x -> x.event(2, 3), Given::fillEvents);
    }

    static void eventNoSuchWhat() {
        for (int what : new int[] {-2, 3, 4, MIN, MAX}) {
            refused("event(" + what + ", 1)", NONE, x -> x.event(what, 1));
        }
    }

    static void eventBadNumbers() {
        for (int n : new int[] {0, 5, -1, MIN, MAX}) {
            refused("event(0, " + n + ")", BAD, x -> x.event(0, n));
        }
        for (int n : new int[] {-1, 4, 5, MIN, MAX}) {
            refused("event(1, " + n + ")", BAD, x -> x.event(1, n));
            refused("event(2, " + n + ")", BAD, x -> x.event(2, n));
        }
    }

    static void eventNoneAheadOfBadAheadOfFull() {
        refused("NONE, BAD", NONE, x -> x.event(3, 9));
        refused("NONE, FULL", NONE, x -> x.event(3, 1), Given::fillEvents);
        refused("NONE, BAD, FULL", NONE, x -> x.event(-2, -1), Given::fillEvents);
        refused("BAD, FULL", BAD, x -> x.event(0, 0), Given::fillEvents);
        refused("BAD, FULL of a generator", BAD, x -> x.event(1, 4), Given::fillEvents);
    }

    static void eventMinusOneLeavesNoneWhateverNIs() {
        for (int n : new int[] {0, -1, 9, MIN, MAX}) {
            PaintFrames x = Given.rich();
            due("event(-1, " + n + ")", x.event(-1, n), 0);
            due("count(1)", x.count(1), 0);
            due("after()", x.after(), x.told(7));
        }
        PaintFrames y = Given.rich();
        Given.fillEvents(y);
        due("of eight", y.event(-1, 0), 0);
        due("the first again", y.event(1, 0), 1);
        due("nothing of the earlier ones", y.after(), 54);
    }

    // ---- after: AFTER

    static void afterNoEvents() {
        due("of a new one", new PaintFrames().after(), 16);
        due("of the square", squareOfThreeKinds().after(), 21);
    }

    static void afterOtherKinds() {
        PaintFrames x = Given.square();
        int[] classes = {1, 6, 21, 55};
        for (int kinds = 1; kinds <= 4; kinds++) {
            x.event(0, kinds);
            due("the latest says " + kinds, x.after(), classes[kinds - 1]);
        }
        due("kinds are as they were", x.told(1), 2);
    }

    static void afterAGeneratorIsNoMore() {
        PaintFrames x = squareOfThreeKinds();
        x.event(1, 0);
        due("the mirror alone", x.after(), 54);
        x.event(1, 1);
        due("none", x.after(), 81);
        due("they are as they were", x.told(2), 2);
        due("moves, too", x.told(3), 8);
    }

    /** With the first no more the second still is number 1. */
    static void theOthersKeepTheirNumbers() {
        PaintFrames x = squareOfThreeKinds();
        x.event(1, 0);
        x.event(1, 0);
        due("0 twice", x.after(), 54);
        x.event(1, 1);
        due("then 1", x.after(), 81);
    }

    static void whatThereIsNotIsNothing() {
        PaintFrames x = squareOfThreeKinds();
        x.event(1, 2);
        x.event(1, 3);
        x.event(2, 2);
        x.event(2, 3);
        due("after()", x.after(), 21);
        x.generator(3412, 0);
        x.event(1, 0);
        due("generator 2 is there now, and is no more", x.after(), 54);
    }

    static void whatIsNoMoreHasNoHand() {
        PaintFrames x = squareOfThreeKinds();
        x.event(1, 1);
        x.event(2, 1);
        x.event(1, 1);
        due("turns alone", x.after(), 24);
    }

    static void theOtherHandChangesNoClassByOne() {
        PaintFrames x = squareOfThreeKinds();
        x.event(2, 0);
        due("a turn made a mirror", x.after(), 21);
        x.event(2, 1);
        due("a mirror made a turn", x.after(), 21);
        x.event(1, 0);
        due("that alone", x.after(), 54);
    }

    static void overByTheOtherHandIsNotDone() {
        PaintFrames x = new PaintFrames();
        Given.fillMoves(x);
        x.kinds(4);
        x.event(2, 0);
        due("five kinds in any order", x.after(), 56);
        due("no trouble", x.cause(0, 0), NIL);
        x.event(1, 1);
        x.event(2, 0);
        due("five round", x.after(), 208);
        due("still 120 moves", x.told(3), 120);
        due("still a turn", x.of(0, 1), 0);
    }

    static void eventsAreDoneAnewEachTime() {
        PaintFrames x = squareOfThreeKinds();
        x.event(0, 2);
        due("once", x.after(), 6);
        due("and again", x.after(), 6);
        x.kinds(4);
        due("with other kinds now", x.after(), 6);
        x.drop();
        due("with fewer generators", x.after(), 6);
        x.places(3);
        due("with other places", x.after(), 8);
    }

    public static void main(String[] args) throws Exception {
        runAll(SeenBoundsTest.class);
    }
}
