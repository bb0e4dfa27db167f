/** Moves and their cycles, promises 10 to 14: each sentence that names a boundary, just inside it, on it, just outside. */
public final class MovesBoundsTest extends Bounds {
    private static final int[] NO_FLAGS = {-1, 2, 3, MIN, MAX};

    private static PaintFrames rowsAsGenerators(int places, int... rowsThenHands) {
        PaintFrames x = new PaintFrames();
        x.places(places);
        for (int i = 0; i < rowsThenHands.length; i += 2) {
            x.generator(rowsThenHands[i], rowsThenHands[i + 1]);
        }
        return x;
    }

    // ---- move: the i-th of MOVES (0, 1, ..), what 0, 1, 2. NONE

    static void theFirstAndTheLastMove() {
        PaintFrames x = Given.square();
        due("move(0, 0)", x.move(0, 0), 1234);
        due("move(0, 1)", x.move(0, 1), 0);
        due("move(0, 2)", x.move(0, 2), 400000);
        due("move(7, 0)", x.move(7, 0), 4321);
        due("move(7, 1)", x.move(7, 1), 1);
        due("move(7, 2)", x.move(7, 2), 20000);
    }

    static void noSuchMove() {
        for (int i : new int[] {-1, 8, 9, 120, MIN, MAX}) {
            refused("move(" + i + ", 0)", NONE, x -> x.move(i, 0));
        }
    }

    static void noSuchThingOfAMove() {
        for (int what : new int[] {-1, 3, 10, MIN, MAX}) {
            refused("move(0, " + what + ")", NONE, x -> x.move(0, what));
            refused("move(7, " + what + ")", NONE, x -> x.move(7, what));
        }
    }

    static void movesThatWereThereAreNoMore() {
        PaintFrames x = Given.square();
        x.drop();
        due("the last of four", x.move(3, 0), 4123);
        due("a fifth", x.move(4, 0), NONE);
        x.places(5);
        due("the only one", x.move(0, 0), 12345);
        due("a second", x.move(1, 0), NONE);
    }

    static void movesAreInOrderOfRowsAsNumbers() {
        PaintFrames x = new PaintFrames();
        Given.fillMoves(x);
        int before = 0;
        for (int i = 0; i < 120; i++) {
            int row = x.move(i, 0);
            holds("row " + i + " is above " + before, row > before);
            before = row;
        }
    }

    // ---- TYPE: a number of six digits: how many CYCLES of 1, 2, .. 6 PLACES it has

    static void typesOfCyclesOfEachLength() {
        due("six of 1", rowsAsGenerators(6, 123456, 0).of(0, 2), 600000);
        due("two of 1", rowsAsGenerators(2, 12, 0).of(0, 2), 200000);
        due("one of 2", rowsAsGenerators(2, 21, 0).of(0, 2), 10000);
        due("one of 3", rowsAsGenerators(3, 312, 0).of(0, 2), 1000);
        due("one of 4", rowsAsGenerators(4, 2413, 0).of(0, 2), 100);
        due("one of 5", rowsAsGenerators(5, 51234, 0).of(0, 2), 10);
        due("one of 6", rowsAsGenerators(6, 234561, 0).of(0, 2), 1);
    }

    static void typesOfCyclesOfSeveralLengths() {
        due("three of 2", rowsAsGenerators(6, 214365, 0).of(0, 2), 30000);
        due("two of 3", rowsAsGenerators(6, 231564, 0).of(0, 2), 2000);
        due("1 and 5", rowsAsGenerators(6, 134562, 0).of(0, 2), 100010);
        due("2 and 4", rowsAsGenerators(6, 341256, 0).of(0, 2), 220000);
        due("4 and 2", rowsAsGenerators(6, 234165, 0).of(0, 2), 10100);
        due("1, 2 and 3, not side by side", rowsAsGenerators(6, 453162, 0).of(0, 2), 111000);
    }

    // ---- told: what 0 .. 8. NONE

    static void toldOfARichObject() {
        PaintFrames x = Given.rich();
        int[] told = {4, 3, 2, 8, 4, 81, 24, 21, 3};
        for (int what = 0; what <= 8; what++) {
            due("told(" + what + ")", x.told(what), told[what]);
        }
    }

    static void toldOfWhatThereIsNot() {
        for (int what : new int[] {-1, 9, 10, MIN, MAX}) {
            refused("told(" + what + ")", NONE, x -> x.told(what));
        }
    }

    static void paintingsFromTheFewestToTheMost() {
        PaintFrames x = new PaintFrames();
        x.places(2);
        x.kinds(1);
        due("the fewest", x.told(5), 1);
        due("classes of one", x.told(6), 1);
        x.places(6);
        x.kinds(4);
        due("the most", x.told(5), 4096);
        due("each a class of its own", x.told(6), 4096);
        due("by 1, too", x.told(7), 4096);
    }

    static void pairsWithoutMirrorsAreNone() {
        PaintFrames x = new PaintFrames();
        x.places(6);
        x.kinds(4);
        x.generator(234561, 0);
        due("classes by 0", x.told(6), 700);
        due("classes by 1", x.told(7), 700);
        due("pairs", x.told(8), 0);
    }

    static void pairsOfOneAndOfMany() {
        PaintFrames x = rowsAsGenerators(3, 231, 0, 132, 1);
        due("of two kinds none", x.told(8), 0);
        x.kinds(3);
        due("of three kinds one", x.told(8), 1);
        x.kinds(4);
        due("of four kinds four", x.told(8), 4);
    }

    static void aMirrorThatLeavesAllMakesNoPairs() {
        PaintFrames x = rowsAsGenerators(4, 1234, 1);
        due("moves", x.told(3), 2);
        due("turns", x.told(4), 1);
        due("classes by 0", x.told(6), 16);
        due("classes by 1", x.told(7), 16);
        due("pairs", x.told(8), 0);
    }

    static void turnsAreTheMovesWithoutMirrors() {
        PaintFrames x = rowsAsGenerators(4, 2341, 0);
        due("moves", x.told(3), 4);
        due("turns", x.told(4), 4);
        PaintFrames y = rowsAsGenerators(4, 2341, 1);
        due("moves of a mirror", y.told(3), 4);
        due("turns of a mirror", y.told(4), 2);
    }

    // ---- index: what 0 TYPE, 1 how many; k -1: how many TYPES. NONE: by, k, what

    static void indexOfTheFirstAndTheLastType() {
        PaintFrames x = Given.square();
        int[] types = {100, 20000, 210000, 400000};
        int[] often = {2, 3, 2, 1};
        for (int k = 0; k < 4; k++) {
            due("type " + k, x.index(1, k, 0), types[k]);
            due("how many have it " + k, x.index(1, k, 1), often[k]);
        }
        int[] oftenTurns = {2, 1, 1};
        for (int k = 0; k < 3; k++) {
            due("how many turns have it " + k, x.index(0, k, 1), oftenTurns[k]);
        }
        due("the last by 0", x.index(0, 2, 0), 400000);
    }

    static void indexNoSuchType() {
        for (int k : new int[] {-2, 4, 5, MIN, MAX}) {
            refused("index(1, " + k + ", 0)", NONE, x -> x.index(1, k, 0));
        }
        refused("index(0, 3, 0)", NONE, x -> x.index(0, 3, 0));
        due("a second of one", new PaintFrames().index(0, 1, 0), NONE);
    }

    static void indexHowManyTypesWhateverWhatIs() {
        PaintFrames x = Given.square();
        for (int what : new int[] {0, 1, -1, 2, MIN, MAX}) {
            due("index(0, -1, " + what + ")", x.index(0, -1, what), 3);
            due("index(1, -1, " + what + ")", x.index(1, -1, what), 4);
        }
        due("of one move", new PaintFrames().index(1, -1, 0), 1);
    }

    static void indexNoSuchBy() {
        for (int by : NO_FLAGS) {
            refused("index(" + by + ", 0, 0)", NONE, x -> x.index(by, 0, 0));
            refused("index(" + by + ", -1, 0)", NONE, x -> x.index(by, -1, 0));
        }
    }

    static void indexNoSuchWhat() {
        for (int what : NO_FLAGS) {
            refused("index(1, 0, " + what + ")", NONE, x -> x.index(1, 0, what));
        }
    }

    static void indexOfAHundredAndTwentyMoves() {
        PaintFrames x = rowsAsGenerators(6, 234516, 0, 213456, 0);
        int[] types = {100010, 111000, 200100, 220000, 301000, 410000, 600000};
        int[] often = {24, 20, 30, 15, 20, 10, 1};
        dueIndex(x, types, often);
    }

    /** Two threes of places, each turned for itself and for the other: 72 moves of nine types. */
    static void indexOfNineTypes() {
        PaintFrames x = rowsAsGenerators(6, 231456, 0, 213456, 0, 456123, 0);
        int[] types = {1, 2000, 10100, 30000, 111000, 220000, 301000, 410000, 600000};
        int[] often = {12, 4, 18, 6, 12, 9, 4, 6, 1};
        dueIndex(x, types, often);
    }

    private static void dueIndex(PaintFrames x, int[] types, int[] often) {
        due("how many types", x.index(1, -1, 0), types.length);
        for (int k = 0; k < types.length; k++) {
            due("type " + k, x.index(1, k, 0), types[k]);
            due("how many have it " + k, x.index(1, k, 1), often[k]);
        }
        due("no more", x.index(1, types.length, 0), NONE);
    }

    // ---- part: a fraction in lowest terms; 0 above, 1 below the line. NO: by, k, part

    static void partsInLowestTerms() {
        PaintFrames x = Given.square();
        long[] above = {1, 3, 1, 1};
        long[] below = {4, 8, 4, 8};
        for (int k = 0; k < 4; k++) {
            due("above " + k, x.part(1, k, 0), above[k]);
            due("below " + k, x.part(1, k, 1), below[k]);
        }
        due("turns: above", x.part(0, 0, 0), 1);
        due("turns: below", x.part(0, 0, 1), 2);
    }

    static void theWholeIsOneByOne() {
        PaintFrames x = new PaintFrames();
        due("above", x.part(0, 0, 0), 1);
        due("below", x.part(0, 0, 1), 1);
        PaintFrames y = rowsAsGenerators(4, 1234, 1);
        due("two of two: above", y.part(1, 0, 0), 1);
        due("two of two: below", y.part(1, 0, 1), 1);
    }

    static void partNoSuchType() {
        for (int k : new int[] {-1, -2, 4, 5, MIN, MAX}) {
            refused("part(1, " + k + ", 0)", NO, x -> x.part(1, k, 0));
        }
        refused("part(0, 3, 1)", NO, x -> x.part(0, 3, 1));
    }

    static void partNoSuchByOrPart() {
        for (int no : NO_FLAGS) {
            refused("part(" + no + ", 0, 0)", NO, x -> x.part(no, 0, 0));
            refused("part(1, 0, " + no + ")", NO, x -> x.part(1, 0, no));
        }
        refused("part(2, -1, 2)", NO, x -> x.part(2, -1, 2));
    }

    // ---- many: x 0 .. 9. NO: by, x

    static void manyForZeroToNine() {
        PaintFrames x = Given.square();
        int[] byTurns = {0, 1, 6, 24, 70, 165, 336, 616, 1044, 1665};
        int[] byAll = {0, 1, 6, 21, 55, 120, 231, 406, 666, 1035};
        for (int v = 0; v <= 9; v++) {
            due("many(0, " + v + ")", x.many(0, v), byTurns[v]);
            due("many(1, " + v + ")", x.many(1, v), byAll[v]);
        }
    }

    static void manyForFewerThanZeroAndMoreThanNine() {
        for (int v : new int[] {-1, 10, 11, -9, MIN, MAX}) {
            refused("many(0, " + v + ")", NO, x -> x.many(0, v));
            refused("many(1, " + v + ")", NO, x -> x.many(1, v));
        }
    }

    static void manyNoSuchBy() {
        for (int by : NO_FLAGS) {
            refused("many(" + by + ", 2)", NO, x -> x.many(by, 2));
        }
        refused("many(2, 10)", NO, x -> x.many(2, 10));
    }

    static void manyOfTheMostPlaces() {
        PaintFrames x = rowsAsGenerators(6, 123456, 0);
        due("nine to six", x.many(0, 9), 531441);
        PaintFrames y = new PaintFrames();
        Given.fillMoves(y);
        due("nine kinds on five places in any order", y.many(1, 9), 1287);
        due("no kinds", y.many(0, 0), 0);
    }

    static void manyForKindsIsHowManyClassesThereAre() {
        PaintFrames x = Given.square();
        for (int kinds = 1; kinds <= 4; kinds++) {
            x.kinds(kinds);
            due("by 0 of " + kinds, x.told(6), x.many(0, kinds));
            due("by 1 of " + kinds, x.told(7), x.many(1, kinds));
        }
    }

    public static void main(String[] args) throws Exception {
        runAll(MovesBoundsTest.class);
    }
}
