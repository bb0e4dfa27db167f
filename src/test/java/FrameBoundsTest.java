/** Terms 1 and 2, promises 1 to 9: each sentence that names a boundary, just inside it, on it, just outside. */
public final class FrameBoundsTest extends Bounds {
    // ---- PLACES n (2 .. 6; 4 at first)

    static void placesAreFromTwoToSix() {
        PaintFrames x = new PaintFrames();
        int before = 4;
        for (int v = 2; v <= 6; v++) {
            due("places(" + v + ")", x.places(v), before);
            due("told(0)", x.told(0), v);
            due("paintings of two kinds", x.told(5), 1 << v);
            due("the row that leaves all", x.move(0, 0), 123456 / power(10, 6 - v));
            before = v;
        }
        due("places(6) again", x.places(6), 6);
    }

    static void placesBelowTwoAndAboveSixAreBad() {
        for (int v : new int[] {1, 7, 0, -1, -4, 8, MIN, MAX}) {
            refused("places(" + v + ")", BAD, x -> x.places(v));
        }
    }

    static void placesAreFourAtFirst() {
        PaintFrames x = new PaintFrames();
        due("told(0)", x.told(0), 4);
        due("a row of four", x.generator(2341, 0), 0);
    }

    static void placesLeaveNoGenerators() {
        PaintFrames x = Given.rich();
        due("as many again", x.places(4), 4);
        due("generators", x.told(2), 0);
        due("of(0, 0)", x.of(0, 0), NONE);
        due("moves", x.told(3), 1);
        due("drop()", x.drop(), STATE);
        due("the next is number 0", x.generator(2143, 1), 0);
    }

    static void placesEmptyTheRacks() {
        PaintFrames x = Given.rich();
        x.places(4);
        x.generator(4321, 0);
        for (int r = 0; r < 3; r++) {
            for (int p = 10; p <= 12; p++) {
                due("rack(" + r + ", " + p + ")", x.rack(r, p), NIL);
            }
            due("rack(" + r + ", 0)", x.rack(r, 0), 1234);
        }
    }

    static void placesLeaveKindsWeightsSeenEvents() {
        PaintFrames x = Given.rich();
        x.places(3);
        due("kinds", x.told(1), 3);
        due("weight", x.weight(1, 8), 8);
        due("seen", x.count(0), 3);
        due("events", x.count(1), 3);
    }

    // ---- KINDS k (1 .. 4; 2 at first)

    static void kindsAreFromOneToFour() {
        PaintFrames x = new PaintFrames();
        int before = 2;
        for (int v = 1; v <= 4; v++) {
            due("kinds(" + v + ")", x.kinds(v), before);
            due("told(1)", x.told(1), v);
            due("paintings of four places", x.told(5), power(v, 4));
            before = v;
        }
        due("kinds(4) again", x.kinds(4), 4);
    }

    static void kindsBelowOneAndAboveFourAreBad() {
        for (int v : new int[] {0, 5, -1, 6, MIN, MAX}) {
            refused("kinds(" + v + ")", BAD, x -> x.kinds(v));
        }
    }

    static void kindsAreTwoAtFirst() {
        PaintFrames x = new PaintFrames();
        due("told(1)", x.told(1), 2);
        due("kind 1", x.least(0, 1), 1);
        due("kind 2", x.least(0, 2), BAD);
    }

    static void kindsLeaveGeneratorsAndRacks() {
        PaintFrames x = Given.rich();
        x.kinds(1);
        due("generators", x.told(2), 2);
        due("rack", x.rack(0, 10), 0);
        due("weight of a kind that there isn't", x.weight(3, 3), 3);
    }

    // ---- a WEIGHT of each of KINDS 0 .. 3 (0 .. 9; its number at first)

    static void weightsAreTheKindsNumbersAtFirst() {
        PaintFrames x = new PaintFrames();
        for (int kind = 0; kind <= 3; kind++) {
            due("weight of " + kind, x.weight(kind, 5), kind);
        }
    }

    static void weightsAreFromZeroToNine() {
        PaintFrames x = new PaintFrames();
        for (int kind = 0; kind <= 3; kind++) {
            int before = kind;
            for (int v : new int[] {0, 1, 8, 9}) {
                due("weight(" + kind + ", " + v + ")", x.weight(kind, v), before);
                before = v;
            }
        }
    }

    static void weightsBelowZeroAndAboveNineAreBad() {
        for (int v : new int[] {-1, 10, -9, 11, MIN, MAX}) {
            refused("weight(0, " + v + ")", BAD, x -> x.weight(0, v));
            refused("weight(3, " + v + ")", BAD, x -> x.weight(3, v));
        }
    }

    static void weightOfNoSuchKind() {
        for (int kind : new int[] {-1, 4, 5, MIN, MAX}) {
            refused("weight(" + kind + ", 1)", NONE, x -> x.weight(kind, 1));
        }
    }

    static void weightOfAKindThatIsNotInUse() {
        PaintFrames x = new PaintFrames();
        x.kinds(1);
        due("weight(3, 9)", x.weight(3, 9), 3);
        due("weight(1, 0)", x.weight(1, 0), 1);
    }

    static void weightNoneAheadOfBad() {
        refused("weight(4, 10)", NONE, x -> x.weight(4, 10));
        refused("weight(-1, -1)", NONE, x -> x.weight(-1, -1));
    }

    // ---- GENERATORS 0 .. 3, as they come

    static void generatorsAreNumberedAsTheyCome() {
        PaintFrames x = new PaintFrames();
        int[] rows = {2341, 4321, 1234, 3412};
        for (int g = 0; g < 4; g++) {
            due("generator " + g, x.generator(rows[g], g % 2), g);
            due("told(2)", x.told(2), g + 1);
        }
        for (int g = 0; g < 4; g++) {
            due("row " + g, x.of(g, 0), rows[g]);
            due("hand " + g, x.of(g, 1), g % 2);
        }
    }

    static void theFifthGeneratorIsFull() {
        refused("generator(2341, 0)", FULL, x -> x.generator(2341, 0), Given::fillGenerators);
        refused("generator(1234, 1)", FULL, x -> x.generator(1234, 1), Given::fillGenerators);
    }

    static void aDroppedNumberComesAgain() {
        PaintFrames x = new PaintFrames();
        Given.fillGenerators(x);
        due("drop()", x.drop(), 3);
        due("generator", x.generator(4321, 1), 3);
        due("row", x.of(3, 0), 4321);
        due("a fifth", x.generator(4321, 1), FULL);
    }

    // ---- a ROW of n digits 1 .. n, each once

    static void rowsOfEachLength() {
        int[] rows = {21, 321, 4321, 54321, 654321};
        for (int n = 2; n <= 6; n++) {
            PaintFrames x = new PaintFrames();
            x.places(n);
            due("generator(" + rows[n - 2] + ", 0)", x.generator(rows[n - 2], 0), 0);
            due("its row", x.of(0, 0), rows[n - 2]);
        }
    }

    static void rowsOfADigitTooFewOrTooMany() {
        int[] rows = {1, 12, 123, 1234, 12345, 123456, 1234567};
        for (int n = 2; n <= 6; n++) {
            int places = n;
            refused("one too few of " + n, BAD, x -> x.generator(rows[places - 2], 0), x -> x.places(places));
            refused("one too many of " + n, BAD, x -> x.generator(rows[places], 0), x -> x.places(places));
        }
    }

    static void rowsWithADigitZero() {
        refused("a 0 ahead is no digit", BAD, x -> x.generator(234, 0));
        refused("a 0 last", BAD, x -> x.generator(1230, 0));
        refused("a 0 within", BAD, x -> x.generator(1023, 0));
    }

    static void rowsWithADigitAboveN() {
        refused("n + 1 last", BAD, x -> x.generator(1235, 0));
        refused("n + 1 first", BAD, x -> x.generator(5123, 0));
        refused("9", BAD, x -> x.generator(1239, 0));
        refused("7 of six", BAD, x -> x.generator(723456, 0), x -> x.places(6));
        refused("3 of two", BAD, x -> x.generator(13, 0), x -> x.places(2));
    }

    static void rowsWithADigitTwice() {
        refused("the first two", BAD, x -> x.generator(1134, 0));
        refused("the last two", BAD, x -> x.generator(1244, 0));
        refused("the first and the last", BAD, x -> x.generator(4234, 0));
        refused("two of two", BAD, x -> x.generator(22, 0), x -> x.places(2));
    }

    static void rowsThatAreNoRowsAtAll() {
        for (int row : new int[] {0, -1, -1234, -2341, 1234 + 65536, MIN, MAX}) {
            refused("generator(" + row + ", 0)", BAD, x -> x.generator(row, 0));
        }
    }

    // ---- and a HAND (0 a TURN, 1 a MIRROR)

    static void handsAreZeroAndOne() {
        PaintFrames x = new PaintFrames();
        due("a turn", x.generator(2143, 0), 0);
        due("its hand", x.of(0, 1), 0);
        due("a mirror", x.generator(2143, 1), 1);
        due("its hand", x.of(1, 1), 1);
    }

    static void otherHandsAreBad() {
        for (int hand : new int[] {-1, 2, 3, MIN, MAX}) {
            refused("generator(2143, " + hand + ")", BAD, x -> x.generator(2143, hand));
        }
    }

    static void generatorBadAheadOfFullAndOver() {
        refused("row, FULL", BAD, x -> x.generator(1235, 0), Given::fillGenerators);
        refused("hand, FULL", BAD, x -> x.generator(1234, 2), Given::fillGenerators);
        refused("hand, OVER", BAD, x -> x.generator(12345, 2), Given::fillMoves);
        refused("row and hand", BAD, x -> x.generator(1235, 2));
    }

    static void generatorFullAheadOfOver() {
        refused("generator(12345, 1)", FULL, x -> x.generator(12345, 1), Given::fillMoves, x -> {
            x.generator(12345, 0);
            x.generator(54321, 0);
        });
    }

    // ---- MOVES: 120 at most: OVER

    static void aHundredAndTwentyTurnsAreNotOver() {
        PaintFrames x = new PaintFrames();
        Given.fillMoves(x);
        due("moves", x.told(3), 120);
        due("turns", x.told(4), 120);
        due("the last", x.move(119, 0), 54321);
        due("beyond the last", x.move(120, 0), NONE);
        due("one of them again is not OVER", x.generator(54321, 0), 2);
        due("moves", x.told(3), 120);
    }

    static void aHundredAndTwentyOfBothHandsAreNotOver() {
        PaintFrames x = new PaintFrames();
        x.places(5);
        due("five round", x.generator(23451, 0), 0);
        due("three round", x.generator(23145, 0), 1);
        due("moves", x.told(3), 60);
        due("the mirror that leaves all", x.generator(12345, 1), 2);
        due("moves", x.told(3), 120);
        due("turns", x.told(4), 60);
    }

    static void aHundredAndTwentyRowsOfSixPlacesAreNotOver() {
        PaintFrames x = new PaintFrames();
        x.places(6);
        due("five round of six", x.generator(234516, 0), 0);
        due("two of five", x.generator(213456, 0), 1);
        due("moves", x.told(3), 120);
        due("six round as well", x.generator(234561, 0), OVER);
        dueCauses(x, 5, 2, 6, 120);
    }

    /** Two threes of places, each turned for itself and for the other: 72 rows, and 144 with a mirror. */
    static void aHundredAndFortyFourAreOver() {
        Setup twoThrees = x -> {
            x.places(6);
            x.generator(231456, 0);
            x.generator(213456, 0);
            x.generator(456123, 0);
        };
        PaintFrames x = new PaintFrames();
        twoThrees.on(x);
        due("moves", x.told(3), 72);
        refusedAsOver("generator(123456, 1)", 3, y -> y.generator(123456, 1), twoThrees);
    }

    static void overTellsHowManyGeneratorsThereAre() {
        refusedAsOver("with one", 1, x -> x.generator(213456, 0), x -> {
            x.places(6);
            x.generator(234561, 0);
        });
        refusedAsOver("with two", 2, x -> x.generator(12345, 1), Given::fillMoves);
        refusedAsOver("with three", 3, x -> x.generator(54321, 1), Given::fillMoves, x -> x.generator(54321, 0));
    }

    static void afterOverWhatFitsStillComes() {
        PaintFrames x = new PaintFrames();
        x.places(6);
        x.generator(234561, 0);
        due("over", x.generator(213456, 1), OVER);
        due("its number is free", x.of(1, 0), NONE);
        due("what fits", x.generator(654321, 1), 1);
        due("moves", x.told(3), 12);
    }

    // ---- MOVES: unlike by ROW or HAND; HAND 1, if so many MIRRORS are among them that they are odd

    static void movesAreUnlikeByRowOrHand() {
        PaintFrames x = new PaintFrames();
        x.places(2);
        x.generator(21, 1);
        due("one mirror", x.told(3), 2);
        x.generator(21, 1);
        due("the same again", x.told(3), 2);
        x.generator(21, 0);
        due("the same row as a turn", x.told(3), 4);
        int[] rows = {12, 12, 21, 21};
        for (int i = 0; i < 4; i++) {
            due("row " + i, x.move(i, 0), rows[i]);
            due("hand 0 ahead " + i, x.move(i, 1), i % 2);
        }
    }

    static void evenManyMirrorsAreATurn() {
        PaintFrames x = new PaintFrames();
        x.generator(2341, 1);
        int[] rows = {1234, 2341, 3412, 4123};
        int[] hands = {0, 1, 0, 1};
        for (int i = 0; i < 4; i++) {
            due("row " + i, x.move(i, 0), rows[i]);
            due("hand " + i, x.move(i, 1), hands[i]);
        }
        due("no fifth", x.move(4, 0), NONE);
    }

    static void aMirrorThreeTimesIsAMirrorAgain() {
        PaintFrames x = new PaintFrames();
        x.places(3);
        x.generator(231, 1);
        due("each row as both", x.told(3), 6);
        due("turns", x.told(4), 3);
    }

    static void withoutGeneratorsThereIsOneMove() {
        PaintFrames x = new PaintFrames();
        due("moves", x.told(3), 1);
        due("turns", x.told(4), 1);
        due("its row", x.move(0, 0), 1234);
        due("its hand", x.move(0, 1), 0);
        due("no other", x.move(1, 0), NONE);
    }

    /** At PLACE p what was at the PLACE that is 1 less than the ROW's digit p: only of order 4 is it told from its like. */
    static void aPaintingBecomesByTheRowsDigits() {
        PaintFrames x = new PaintFrames();
        x.kinds(4);
        x.generator(2341, 0);
        x.generator(2314, 0);
        x.lay(0, 0, 0);
        x.lay(0, 1, 1);
        due("first 2341, then 2314", x.rack(0, 0), 3421);
        x.lay(0, 0, 1);
        x.lay(0, 1, 0);
        due("first 2314, then 2341", x.rack(0, 0), 3142);
    }

    // ---- drop: STATE: there are none

    static void dropTillThereAreNone() {
        PaintFrames x = new PaintFrames();
        Given.fillGenerators(x);
        for (int left = 3; left >= 0; left--) {
            due("drop()", x.drop(), left);
            due("told(2)", x.told(2), left);
            due("of the one that is no more", x.of(left, 0), NONE);
        }
        due("drop() of none", x.drop(), STATE);
    }

    static void dropOfNoneIsState() {
        refused("drop()", STATE, PaintFrames::drop, Given::dropAll);
        refused("drop() behind places", STATE, PaintFrames::drop, x -> x.places(4));
        due("drop() of a new one", new PaintFrames().drop(), STATE);
    }

    static void dropLeavesTheRacksWhatElseTheyHold() {
        PaintFrames x = Given.rich();
        x.lay(2, 1, 1);
        due("drop()", x.drop(), 1);
        int[][] held = {{0, NIL, NIL}, {NIL, 0, NIL}, {NIL, NIL, NIL}};
        for (int r = 0; r < 3; r++) {
            for (int p = 0; p < 3; p++) {
                due("rack(" + r + ", " + (10 + p) + ")", x.rack(r, 10 + p), held[r][p]);
            }
        }
        due("the one that comes then lies on no rack", x.generator(1432, 1), 1);
        due("rack(0, 12)", x.rack(0, 12), NIL);
    }

    static void dropEmptiesEachPlaceThatHeldIt() {
        for (int r = 0; r <= 2; r++) {
            for (int p = 0; p <= 2; p++) {
                PaintFrames x = new PaintFrames();
                x.generator(2143, r == 2 ? 1 : 0);
                x.generator(3412, r == 2 ? 1 : 0);
                x.lay(r, p, 1);
                x.lay(r, (p + 1) % 3, 0);
                due("drop()", x.drop(), 1);
                due("rack(" + r + ", " + (10 + p) + ")", x.rack(r, 10 + p), NIL);
                due("what lies beside it stays", x.rack(r, 10 + (p + 1) % 3), 0);
                due("the product is that alone", x.rack(r, 0), 2143);
            }
        }
    }

    static void dropMakesRoomForMoves() {
        PaintFrames x = new PaintFrames();
        Given.fillMoves(x);
        due("over", x.generator(12345, 1), OVER);
        x.drop();
        due("five turns", x.told(3), 5);
        due("no longer over", x.generator(12345, 1), 1);
        due("moves", x.told(3), 10);
    }

    // ---- of: NONE

    static void ofGeneratorsThatThereAre() {
        PaintFrames x = Given.square();
        due("of(0, 0)", x.of(0, 0), 2341);
        due("of(1, 0)", x.of(1, 0), 1432);
        due("of(1, 1)", x.of(1, 1), 1);
        due("of(1, 2)", x.of(1, 2), 210000);
    }

    static void ofGeneratorsThatThereAreNot() {
        for (int g : new int[] {-1, 2, 3, 4, MIN, MAX}) {
            refused("of(" + g + ", 0)", NONE, x -> x.of(g, 0));
        }
        due("of the first of none", new PaintFrames().of(0, 0), NONE);
    }

    static void ofWhatThereIsNot() {
        for (int what : new int[] {-1, 3, MIN, MAX}) {
            refused("of(0, " + what + ")", NONE, x -> x.of(0, what));
        }
    }

    // ---- lay: RACKS 0 .. 2, each of 3 places; NONE: rack, generator; PLACE; CAST

    static void racksHoldNothingAtFirst() {
        PaintFrames x = new PaintFrames();
        for (int r = 0; r <= 2; r++) {
            for (int p = 10; p <= 12; p++) {
                due("rack(" + r + ", " + p + ")", x.rack(r, p), NIL);
            }
        }
    }

    static void eachPlaceOfEachRackHoldsAGenerator() {
        PaintFrames x = new PaintFrames();
        x.generator(2143, 0);
        x.generator(3412, 1);
        for (int r = 0; r <= 2; r++) {
            int g = r == 2 ? 1 : 0;
            for (int p = 0; p <= 2; p++) {
                due("lay(" + r + ", " + p + ", " + g + ")", x.lay(r, p, g), NIL);
                due("lies there", x.rack(r, 10 + p), g);
                due("it held it", x.lay(r, p, g), g);
            }
        }
    }

    static void noSuchRack() {
        for (int r : new int[] {-1, 3, 4, MIN, MAX}) {
            refused("lay(" + r + ", 0, 0)", NONE, x -> x.lay(r, 0, 0));
            refused("lay(" + r + ", 0, -1)", NONE, x -> x.lay(r, 0, -1));
        }
    }

    static void noSuchGeneratorToLay() {
        for (int g : new int[] {-2, 2, 3, 4, MIN, MAX}) {
            refused("lay(0, 0, " + g + ")", NONE, x -> x.lay(0, 0, g));
        }
        due("0 of none", new PaintFrames().lay(0, 0, 0), NONE);
        due("nothing, with none", new PaintFrames().lay(0, 0, -1), NIL);
    }

    static void noSuchPlaceOfARack() {
        for (int p : new int[] {-1, 3, 4, 10, MIN, MAX}) {
            refused("lay(0, " + p + ", 0)", PLACE, x -> x.lay(0, p, 0));
            refused("lay(2, " + p + ", -1)", PLACE, x -> x.lay(2, p, -1));
        }
    }

    static void rackZeroTakesAny() {
        PaintFrames x = Given.square();
        due("a turn", x.lay(0, 0, 0), NIL);
        due("a mirror in its place", x.lay(0, 0, 1), 0);
    }

    static void rackOneTakesTurns() {
        PaintFrames x = Given.square();
        due("a turn", x.lay(1, 0, 0), NIL);
        refused("a mirror", CAST, y -> y.lay(1, 0, 1));
        refused("a mirror where a turn is", CAST, y -> y.lay(1, 1, 1));
    }

    static void rackTwoTakesMirrors() {
        PaintFrames x = Given.square();
        due("a mirror", x.lay(2, 0, 1), NIL);
        refused("a turn where a mirror is", CAST, y -> y.lay(2, 0, 0));
        refused("a turn", CAST, y -> y.lay(2, 1, 0));
    }

    static void eachRackTakesNothing() {
        PaintFrames x = Given.rich();
        due("rack 0", x.lay(0, 0, -1), 0);
        due("rack 1", x.lay(1, 1, -1), 0);
        due("rack 2", x.lay(2, 0, -1), 1);
        due("rack 0 again", x.lay(0, 0, -1), NIL);
        due("rack 0 holds none there", x.rack(0, 10), NIL);
    }

    static void layNoneAheadOfPlaceAndCast() {
        refused("rack, generator", NONE, x -> x.lay(3, 0, 2));
        refused("rack, PLACE", NONE, x -> x.lay(-1, 3, 0));
        refused("generator, PLACE", NONE, x -> x.lay(0, 3, 2));
        refused("generator, where CAST could be", NONE, x -> x.lay(1, 0, 2));
        refused("rack, PLACE, nothing", NONE, x -> x.lay(3, -1, -1));
    }

    static void layPlaceAheadOfCast() {
        refused("a mirror on rack 1", PLACE, x -> x.lay(1, 3, 1));
        refused("a turn on rack 2", PLACE, x -> x.lay(2, -1, 0));
    }

    // ---- rack: PRODUCT (with none the one that leaves all: a ROW, a HAND); NONE

    static void productOfNone() {
        for (int n = 2; n <= 6; n++) {
            PaintFrames x = new PaintFrames();
            x.places(n);
            due("row of " + n, x.rack(1, 0), 123456 / power(10, 6 - n));
            due("hand of " + n, x.rack(1, 1), 0);
        }
    }

    static void productOfOneAtAnyPlace() {
        for (int p = 0; p < 3; p++) {
            PaintFrames x = Given.square();
            x.lay(0, p, 1);
            due("row of place " + p, x.rack(0, 0), 1432);
            due("hand of place " + p, x.rack(0, 1), 1);
        }
    }

    static void productBeginsWithPlaceZero() {
        PaintFrames x = Given.square();
        x.lay(0, 0, 0);
        x.lay(0, 2, 1);
        due("turn, nothing, mirror", x.rack(0, 0), 2143);
        x.lay(0, 0, 1);
        x.lay(0, 2, 0);
        due("mirror, nothing, turn", x.rack(0, 0), 4321);
        x.lay(0, 1, 0);
        due("mirror, turn, turn", x.rack(0, 0), 3214);
    }

    static void productOfMirrorsByTheirNumber() {
        PaintFrames x = Given.square();
        for (int p = 0; p < 3; p++) {
            x.lay(2, p, 1);
            due("hand of " + (p + 1), x.rack(2, 1), (p + 1) % 2);
            due("row of " + (p + 1), x.rack(2, 0), p == 1 ? 1234 : 1432);
        }
    }

    static void productNeedNotBeAMoveOfItsRack() {
        PaintFrames x = Given.square();
        x.lay(2, 0, 1);
        x.lay(2, 1, 1);
        due("two mirrors on rack 2 are a turn", x.rack(2, 1), 0);
    }

    static void rackWhatThereIs() {
        PaintFrames x = Given.rich();
        due("10", x.rack(0, 10), 0);
        due("11", x.rack(0, 11), 1);
        due("12", x.rack(0, 12), 1);
    }

    static void rackWhatThereIsNot() {
        for (int what : new int[] {-1, 2, 3, 9, 13, 20, MIN, MAX}) {
            refused("rack(0, " + what + ")", NONE, x -> x.rack(0, what));
        }
    }

    static void rackThatThereIsNot() {
        for (int r : new int[] {-1, 3, 4, MIN, MAX}) {
            refused("rack(" + r + ", 0)", NONE, x -> x.rack(r, 0));
            refused("rack(" + r + ", 10)", NONE, x -> x.rack(r, 10));
        }
    }

    // ---- an object is used for at most 512 calls

    static void theFiveHundredAndTwelfthCallAnswersAsTheFirst() {
        PaintFrames x = new PaintFrames();
        for (int call = 1; call < 512; call++) {
            x.kinds(1 + call % 4);
        }
        due("told(1)", x.told(1), 1 + 511 % 4);
    }

    private static int power(int base, int times) {
        int made = 1;
        for (int i = 0; i < times; i++) {
            made *= base;
        }
        return made;
    }

    public static void main(String[] args) throws Exception {
        runAll(FrameBoundsTest.class);
    }
}
