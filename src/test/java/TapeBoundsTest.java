/** Judging, THE IMAGE, TAPES, promises 33 to 40: each sentence that names a boundary, just inside it, on it, just outside. */
public final class TapeBoundsTest extends Bounds {
    private static final int BYTES = 0, SHORTS = 1, INTS = 2, LONGS = 3, BOOLEANS = 4;

    private static void write(PaintFrames x, int tape, int from, int... items) {
        for (int i = 0; i < items.length; i++) {
            x.item(tape, from + i, items[i]);
        }
    }

    private static void dueItems(PaintFrames x, String when, int tape, long... items) {
        for (int i = 0; i < items.length; i++) {
            due(when + ": peek(" + tape + ", " + i + ")", x.peek(tape, i), items[i]);
        }
        due(when + ": beyond the last", x.peek(tape, items.length), NO);
    }

    /** The square of two kinds, and on tape 0 a row of ints as long as told, with its leasts from a place on. */
    private static PaintFrames squareTold(int length, int from, int howMany) {
        PaintFrames x = Given.square();
        x.tape(0, INTS, length);
        int[] leasts = {0, 1, 11, 101, 111, 1111};
        for (int i = 0; i < howMany; i++) {
            x.item(0, from + i, leasts[i]);
        }
        return x;
    }

    // ---- judge: NONE: by, tape; CAST: it is no row of ints

    static void judgeNoSuchByOrTape() {
        for (int by : new int[] {-1, 2, 3, MIN, MAX}) {
            refused("judge(" + by + ", 2, 0)", NONE, x -> x.judge(by, 2, 0));
        }
        for (int tape : new int[] {-1, 6, 7, MIN, MAX}) {
            refused("judge(0, " + tape + ", 0)", NONE, x -> x.judge(0, tape, 0));
        }
    }

    static void judgeOfOtherSorts() {
        for (int tape : new int[] {BYTES, SHORTS, LONGS, BOOLEANS}) {
            refused("judge(0, " + tape + ", 0)", CAST, x -> x.judge(0, tape, 0));
            refused("judge(1, " + tape + ", -1)", CAST, x -> x.judge(1, tape, -1));
            refused("judge(1, " + tape + ", 60)", CAST, x -> x.judge(1, tape, 60));
            refused("an empty one", CAST, x -> x.judge(0, tape, 0), x -> x.tape(tape, tape, 0));
        }
    }

    static void judgeNoneAheadOfCast() {
        refused("by", NONE, x -> x.judge(2, BYTES, 0));
        refused("by, tape", NONE, x -> x.judge(2, 6, 0));
        refused("by, a tape that holds nothing", NONE, x -> x.judge(-1, 5, 0));
    }

    // ---- JUDGED: the first that is otherwise; -5: none

    static void noneIsOtherwise() {
        due("a row of just as many", squareTold(6, 0, 6).judge(0, 0, 0), NIL);
        due("a longer row", squareTold(7, 0, 6).judge(1, 0, 0), NIL);
        due("from a place on", squareTold(9, 3, 6).judge(0, 0, 3), NIL);
        due("up to the last of sixty", squareTold(60, 54, 6).judge(0, 0, 54), NIL);
    }

    static void theFirstThatIsOtherwise() {
        for (int wrong = 0; wrong < 6; wrong++) {
            PaintFrames x = squareTold(6, 0, 6);
            x.item(0, wrong, 1000);
            due("otherwise at " + wrong, x.judge(0, 0, 0), wrong);
            x.item(0, 5, 1000);
            due("there and at the last", x.judge(0, 0, 0), wrong);
        }
    }

    static void theNumberIsTheClassNotThePlace() {
        PaintFrames x = squareTold(20, 10, 6);
        x.item(0, 12, 12);
        due("the third class", x.judge(1, 0, 10), 2);
    }

    static void judgedByTurnsOrByAll() {
        PaintFrames x = new PaintFrames();
        x.places(3);
        x.kinds(3);
        x.generator(231, 0);
        x.generator(132, 1);
        x.tape(0, INTS, 11);
        write(x, 0, 0, 0, 1, 2, 11, 12, 21, 22, 111, 112, 122, 222);
        due("by 0", x.judge(0, 0, 0), NIL);
        due("by 1 there is no 021", x.judge(1, 0, 0), 5);
    }

    static void negativeAndGreatItemsAreOtherwise() {
        PaintFrames x = squareTold(6, 0, 6);
        x.item(0, 0, -1);
        due("-1", x.judge(0, 0, 0), 0);
        x.item(0, 0, MAX);
        due("the greatest", x.judge(0, 0, 0), 0);
        x.item(0, 0, 1L << 32);
        due("its lowest bits are 0", x.judge(0, 0, 0), NIL);
    }

    // ---- 100 and how many were looked at, if the row ends ahead of that

    static void theRowEndsAheadOfThat() {
        for (int length = 0; length <= 5; length++) {
            due("a row of " + length, squareTold(length, 0, length).judge(0, 0, 0), 100 + length);
        }
        due("a row of 6", squareTold(6, 0, 6).judge(0, 0, 0), NIL);
        due("five of six from place 1 on", squareTold(6, 1, 5).judge(0, 0, 1), 105);
    }

    static void otherwiseAheadOfTheEnd() {
        PaintFrames x = squareTold(3, 0, 3);
        x.item(0, 2, 10);
        due("the last of the row", x.judge(0, 0, 0), 2);
    }

    static void aPlaceAtOrBeyondTheEnd() {
        for (int i : new int[] {6, 7, 59, 60, 61, MAX - 1, MAX}) {
            due("judge(0, 0, " + i + ")", squareTold(6, 0, 6).judge(0, 0, i), 100);
        }
        due("the last place", squareTold(6, 5, 1).judge(0, 0, 5), 101);
    }

    static void aPlaceBelowZero() {
        for (int i : new int[] {-1, -2, -6, MIN}) {
            due("judge(1, 0, " + i + ")", squareTold(6, 0, 6).judge(1, 0, i), 100);
        }
    }

    static void aTapeThatHoldsNothing() {
        PaintFrames x = Given.square();
        for (int i : new int[] {0, -1, 60, MIN, MAX}) {
            due("judge(0, 3, " + i + ")", x.judge(0, 3, i), 100);
        }
        x.tape(3, LONGS, 2);
        x.tape(3, -1, 0);
        due("that held longs", x.judge(0, 3, 0), 100);
    }

    static void sixtyOfManyClasses() {
        PaintFrames x = new PaintFrames();
        x.places(6);
        x.tape(0, INTS, 60);
        for (int i = 0; i < 60; i++) {
            x.item(0, i, Integer.parseInt(Integer.toBinaryString(i)));
        }
        due("64 classes, 60 told", x.judge(0, 0, 0), 160);
        x.item(0, 59, 111010);
        due("the sixtieth otherwise", x.judge(0, 0, 0), 59);
    }

    // ---- image, undo: PLACES, KINDS, WEIGHTS, GENERATORS, RACKS, SEEN, EVENTS. STATE: there is none

    static void undoWithoutImage() {
        PaintFrames x = Given.square();
        due("undo()", x.undo(), STATE);
        due("moves", x.told(3), 8);
        x.image();
        due("with one", x.undo(), 8);
    }

    static void undoStateChangesNothing() {
        PaintFrames x = Given.square();
        PaintFrames y = Given.square();
        due("undo()", x.undo(), STATE);
        same("undo()", Given.shownBy(x), Given.shownBy(y));
    }

    static void imageTellsMovesAndChangesNothing() {
        PaintFrames x = Given.rich();
        due("image()", x.image(), 8);
        due("of one move", new PaintFrames().image(), 1);
        due("moves", x.told(3), 8);
        due("rack", x.rack(0, 11), 1);
        due("count", x.count(0), 3);
    }

    static void undoOfPlaces() {
        PaintFrames x = new PaintFrames();
        x.image();
        x.places(6);
        due("undo()", x.undo(), 1);
        due("places", x.told(0), 4);
        due("row", x.move(0, 0), 1234);
    }

    static void undoOfKinds() {
        PaintFrames x = new PaintFrames();
        x.image();
        x.kinds(4);
        x.undo();
        due("kinds", x.told(1), 2);
        due("classes", x.kindOf(0, 15, 0), 1111);
        due("kind 2", x.least(0, 2), BAD);
    }

    static void undoOfWeights() {
        PaintFrames x = new PaintFrames();
        x.image();
        for (int kind = 0; kind < 4; kind++) {
            x.weight(kind, 9);
        }
        x.undo();
        for (int kind = 0; kind < 4; kind++) {
            due("weight of " + kind, x.weight(kind, 0), kind);
        }
    }

    static void undoOfGenerators() {
        PaintFrames x = Given.square();
        x.image();
        x.drop();
        x.drop();
        x.generator(2143, 1);
        due("undo()", x.undo(), 8);
        due("generator 0", x.of(0, 0), 2341);
        due("its hand", x.of(0, 1), 0);
        due("generator 1", x.of(1, 0), 1432);
        due("no third", x.of(2, 0), NONE);
    }

    static void undoOfMoreGenerators() {
        PaintFrames x = new PaintFrames();
        x.image();
        Given.fillGenerators(x);
        due("undo()", x.undo(), 1);
        due("none", x.told(2), 0);
        due("drop()", x.drop(), STATE);
    }

    static void undoOfRacks() {
        PaintFrames x = Given.square();
        x.lay(0, 0, 1);
        x.lay(1, 2, 0);
        x.lay(2, 1, 1);
        x.image();
        x.lay(0, 0, -1);
        x.lay(1, 2, -1);
        x.lay(2, 1, -1);
        x.lay(2, 2, 1);
        x.undo();
        due("rack 0", x.rack(0, 10), 1);
        due("rack 1", x.rack(1, 12), 0);
        due("rack 2", x.rack(2, 11), 1);
        due("rack 2, what came later", x.rack(2, 12), NIL);
    }

    static void undoOfSeen() {
        PaintFrames x = Given.square();
        x.see(1, 10, true);
        x.image();
        x.see(-1, 0, true);
        x.see(1, 1, false);
        x.see(1, 1, false);
        x.undo();
        due("count", x.count(0), 1);
        due("how many fit", x.fits(0), 2);
        due("the least", x.fits(1), 1);
        x.see(-1, 0, true);
        x.places(5);
        x.see(1, 10, false);
        x.undo();
        due("of as many places as told", x.fits(0), 2);
    }

    static void undoOfEvents() {
        PaintFrames x = Given.square();
        x.event(0, 3);
        x.event(1, 1);
        x.image();
        x.event(-1, 0);
        x.event(1, 0);
        x.event(1, 0);
        x.event(1, 0);
        x.undo();
        due("count", x.count(1), 2);
        due("after()", x.after(), 24);
    }

    static void undoLeavesTextTroubleTapes() {
        PaintFrames x = Given.rich();
        Given.feed(x, ";k3");
        x.tape(5, LONGS, 1);
        x.item(5, 0, 77);
        x.undo();
        due("text", x.count(2), 5);
        due("tape", x.peek(5, 0), 77);
        dueCauses(x, 1, 1, 2, 3, 4, 'x');
        due("what is read", x.read(), 2);
    }

    static void theLatestImageCounts() {
        PaintFrames x = new PaintFrames();
        x.image();
        x.kinds(3);
        x.image();
        x.kinds(4);
        x.undo();
        due("kinds", x.told(1), 3);
    }

    static void undoCanBeDoneAgain() {
        PaintFrames x = Given.square();
        x.image();
        for (int times = 0; times < 3; times++) {
            x.lay(0, 0, 1);
            x.weight(1, times + 4);
            x.drop();
            due("undo()", x.undo(), 8);
            due("rack", x.rack(0, 10), NIL);
            due("weight", x.weight(1, 1), 1);
        }
    }

    static void whatIsDoneLaterLeavesTheImage() {
        PaintFrames x = Given.square();
        x.image();
        x.undo();
        x.lay(0, 0, 1);
        x.see(1, 1, true);
        x.event(0, 4);
        x.weight(0, 9);
        due("undo()", x.undo(), 8);
        due("rack", x.rack(0, 10), NIL);
        due("seen", x.count(0), 0);
        due("events", x.count(1), 0);
        due("weight", x.weight(0, 0), 0);
    }

    // ---- count: 0 SEEN, 1 EVENTS, 2 bytes of THE TEXT. BAD

    static void countFromNoneToTheMost() {
        PaintFrames x = new PaintFrames();
        for (int what = 0; what <= 2; what++) {
            due("count(" + what + ") at first", x.count(what), 0);
        }
        Given.fillSeen(x);
        Given.fillEvents(x);
        Given.fillText(x);
        due("seen", x.count(0), 5);
        due("events", x.count(1), 8);
        due("bytes", x.count(2), 100);
    }

    static void countOfWhatThereIsNot() {
        for (int what : new int[] {-1, 3, 4, MIN, MAX}) {
            refused("count(" + what + ")", BAD, x -> x.count(what));
        }
    }

    // ---- tape: TAPES 0 .. 5, n (0 .. 60), sort -1 .. 4. NONE: tape; BAD: sort, n above 60; SIZE

    static void tapesHoldNothingAtFirst() {
        PaintFrames x = new PaintFrames();
        for (int tape = 0; tape <= 5; tape++) {
            due("peek(" + tape + ", 0)", x.peek(tape, 0), NO);
            due("item(" + tape + ", 0, 1)", x.item(tape, 0, 1), NOTHING);
        }
    }

    static void eachTapeOfEachSort() {
        PaintFrames x = new PaintFrames();
        for (int tape = 0; tape <= 5; tape++) {
            for (int sort = 0; sort <= 4; sort++) {
                due("tape(" + tape + ", " + sort + ", 2)", x.tape(tape, sort, 2), 1);
                dueItems(x, "all 0", tape, 0, 0);
                due("item", x.item(tape, 1, 1), 1);
            }
        }
    }

    static void rowsOfNoneAndOfSixty() {
        PaintFrames x = new PaintFrames();
        due("tape(0, 2, 0)", x.tape(0, INTS, 0), 1);
        due("no first item", x.item(0, 0, 1), PLACE);
        due("nothing to peek at", x.peek(0, 0), NO);
        for (int n : new int[] {1, 59, 60}) {
            due("tape(0, 2, " + n + ")", x.tape(0, INTS, n), 1);
            due("the last item", x.item(0, n - 1, 5), 1);
            due("beyond it", x.item(0, n, 5), PLACE);
        }
    }

    static void rowsOfMoreThanSixtyAreBad() {
        for (int n : new int[] {61, 62, 100, MAX}) {
            refused("tape(2, 2, " + n + ")", BAD, x -> x.tape(2, INTS, n));
            refused("tape(5, 0, " + n + ")", BAD, x -> x.tape(5, BYTES, n));
        }
    }

    static void rowsBelowZeroAreASize() {
        for (int n : new int[] {-1, -2, -60, MIN}) {
            refused("tape(2, 2, " + n + ")", SIZE, x -> x.tape(2, INTS, n));
            refused("tape(5, 4, " + n + ")", SIZE, x -> x.tape(5, BOOLEANS, n));
        }
    }

    static void sortsThatThereAreNot() {
        for (int sort : new int[] {-2, 5, 6, MIN, MAX}) {
            refused("tape(2, " + sort + ", 3)", BAD, x -> x.tape(2, sort, 3));
        }
    }

    static void tapesThatThereAreNot() {
        for (int tape : new int[] {-1, 6, 7, MIN, MAX}) {
            refused("tape(" + tape + ", 2, 3)", NONE, x -> x.tape(tape, INTS, 3));
            refused("tape(" + tape + ", -1, 3)", NONE, x -> x.tape(tape, -1, 3));
        }
    }

    static void tapeNoneAheadOfBadAheadOfSize() {
        refused("NONE, BAD by sort", NONE, x -> x.tape(6, 5, 3));
        refused("NONE, BAD by n", NONE, x -> x.tape(6, INTS, 61));
        refused("NONE, SIZE", NONE, x -> x.tape(-1, INTS, -1));
        refused("BAD, SIZE", BAD, x -> x.tape(2, 5, -1));
        refused("BAD by both", BAD, x -> x.tape(2, -2, 61));
    }

    static void sortMinusOneHoldsNothingWhateverNIs() {
        for (int n : new int[] {0, 1, 60, 61, -1, MIN, MAX}) {
            PaintFrames x = Given.rich();
            due("tape(2, -1, " + n + ")", x.tape(2, -1, n), 1);
            due("item", x.item(2, 0, 1), NOTHING);
            due("peek", x.peek(2, 0), NO);
            due("again", x.tape(2, -1, n), 1);
        }
    }

    static void aNewRowIsAllZero() {
        PaintFrames x = new PaintFrames();
        x.tape(0, LONGS, 60);
        for (int i = 0; i < 60; i++) {
            x.item(0, i, i + 1);
        }
        due("shorter", x.tape(0, LONGS, 2), 1);
        dueItems(x, "shorter", 0, 0, 0);
        due("longer again", x.tape(0, LONGS, 60), 1);
        for (int i = 0; i < 60; i++) {
            due("peek(0, " + i + ")", x.peek(0, i), 0);
        }
    }

    // ---- item: its lowest bits, as many as an item has, with their sign. NONE; NOTHING; PLACE

    private static void kept(int sort, long v, long want) {
        PaintFrames x = new PaintFrames();
        x.tape(1, sort, 3);
        due("item(1, 1, " + v + ") of sort " + sort, x.item(1, 1, v), 1);
        dueItems(x, v + " of sort " + sort, 1, 0, want, 0);
    }

    static void bytesWrapAround() {
        kept(BYTES, 127, 127);
        kept(BYTES, 128, -128);
        kept(BYTES, 255, -1);
        kept(BYTES, 256, 0);
        kept(BYTES, -128, -128);
        kept(BYTES, -129, 127);
        kept(BYTES, Long.MIN_VALUE, 0);
        kept(BYTES, Long.MAX_VALUE, -1);
    }

    static void shortsWrapAround() {
        kept(SHORTS, 32767, 32767);
        kept(SHORTS, 32768, -32768);
        kept(SHORTS, 65535, -1);
        kept(SHORTS, 65536, 0);
        kept(SHORTS, -32768, -32768);
        kept(SHORTS, -32769, 32767);
        kept(SHORTS, 128, 128);
    }

    static void intsWrapAround() {
        kept(INTS, MAX, MAX);
        kept(INTS, MAX + 1L, MIN);
        kept(INTS, 0xFFFFFFFFL, -1);
        kept(INTS, 1L << 32, 0);
        kept(INTS, MIN, MIN);
        kept(INTS, MIN - 1L, MAX);
        kept(INTS, 32768, 32768);
    }

    static void longsAreKeptWhole() {
        kept(LONGS, Long.MAX_VALUE, Long.MAX_VALUE);
        kept(LONGS, Long.MIN_VALUE, Long.MIN_VALUE);
        kept(LONGS, MAX + 1L, MAX + 1L);
        kept(LONGS, -1, -1);
    }

    static void booleansAreZeroOrOne() {
        kept(BOOLEANS, 0, 0);
        kept(BOOLEANS, 1, 1);
        kept(BOOLEANS, 2, 1);
        kept(BOOLEANS, -1, 1);
        kept(BOOLEANS, 256, 1);
        kept(BOOLEANS, 1L << 32, 1);
        kept(BOOLEANS, Long.MIN_VALUE, 1);
    }

    static void aBooleanBecomesZeroAgain() {
        PaintFrames x = new PaintFrames();
        x.tape(0, BOOLEANS, 1);
        x.item(0, 0, 7);
        due("0", x.item(0, 0, 0), 1);
        due("peek", x.peek(0, 0), 0);
    }

    static void itemNoSuchTape() {
        for (int tape : new int[] {-1, 6, MIN, MAX}) {
            refused("item(" + tape + ", 0, 1)", NONE, x -> x.item(tape, 0, 1));
        }
    }

    static void itemOfNothing() {
        refused("item(5, 0, 1)", NOTHING, x -> x.item(5, 0, 1));
        refused("item(2, 0, 1)", NOTHING, x -> x.item(2, 0, 1), x -> x.tape(2, -1, 0));
    }

    static void itemNoSuchPlace() {
        for (int i : new int[] {-1, 2, 3, 59, 60, MIN, MAX}) {
            refused("item(2, " + i + ", 1)", PLACE, x -> x.item(2, i, 1));
        }
        refused("item(3, 3, 1)", PLACE, x -> x.item(3, 3, 1));
    }

    static void itemNoneAheadOfNothingAheadOfPlace() {
        refused("NONE, PLACE", NONE, x -> x.item(6, -1, 1));
        refused("NOTHING, PLACE below 0", NOTHING, x -> x.item(5, -1, 1));
        refused("NOTHING, PLACE", NOTHING, x -> x.item(5, 60, 1));
    }

    // ---- peek. NO: no such TAPE, nothing there, no such place

    static void peekAtTheFirstAndTheLast() {
        PaintFrames x = new PaintFrames();
        x.tape(5, LONGS, 60);
        x.item(5, 0, 3);
        x.item(5, 59, 4);
        due("first", x.peek(5, 0), 3);
        due("last", x.peek(5, 59), 4);
        due("beyond", x.peek(5, 60), NO);
        due("ahead", x.peek(5, -1), NO);
    }

    static void peekNo() {
        for (int tape : new int[] {-1, 6, MIN, MAX}) {
            refused("peek(" + tape + ", 0)", NO, x -> x.peek(tape, 0));
        }
        for (int i : new int[] {-1, 2, 60, MIN, MAX}) {
            refused("peek(2, " + i + ")", NO, x -> x.peek(2, i));
        }
        refused("peek(5, 0)", NO, x -> x.peek(5, 0));
        refused("peek(6, -1)", NO, x -> x.peek(6, -1));
    }

    // ---- shift: as they all were before: n. NONE: tapes; NOTHING; CAST; PLACE

    private static PaintFrames twoRowsOfInts() {
        PaintFrames x = new PaintFrames();
        x.tape(0, INTS, 5);
        x.tape(1, INTS, 3);
        write(x, 0, 0, 1, 2, 3, 4, 5);
        write(x, 1, 0, 7, 8, 9);
        return x;
    }

    static void shiftToAnother() {
        PaintFrames x = twoRowsOfInts();
        due("shift(0, 2, 1, 0, 3)", x.shift(0, 2, 1, 0, 3), 3);
        dueItems(x, "the other", 1, 3, 4, 5);
        dueItems(x, "the one", 0, 1, 2, 3, 4, 5);
    }

    static void shiftOnTheSameUpAndDown() {
        PaintFrames x = twoRowsOfInts();
        due("up", x.shift(0, 0, 0, 1, 4), 4);
        dueItems(x, "up", 0, 1, 1, 2, 3, 4);
        PaintFrames y = twoRowsOfInts();
        due("down", y.shift(0, 1, 0, 0, 4), 4);
        dueItems(y, "down", 0, 2, 3, 4, 5, 5);
        due("where they are", y.shift(0, 0, 0, 0, 5), 5);
        dueItems(y, "where they are", 0, 2, 3, 4, 5, 5);
    }

    static void shiftOfNone() {
        PaintFrames x = twoRowsOfInts();
        due("at the first", x.shift(0, 0, 1, 0, 0), 0);
        due("at both ends", x.shift(0, 5, 1, 3, 0), 0);
        due("beyond the one's end", x.shift(0, 6, 1, 3, 0), PLACE);
        due("beyond the other's end", x.shift(0, 5, 1, 4, 0), PLACE);
        x.tape(2, INTS, 0);
        due("of an empty row", x.shift(2, 0, 0, 0, 0), 0);
        due("to an empty row", x.shift(0, 0, 2, 0, 0), 0);
        due("one of an empty row", x.shift(2, 0, 0, 0, 1), PLACE);
        dueItems(x, "as it was", 0, 1, 2, 3, 4, 5);
        dueItems(x, "the other, too", 1, 7, 8, 9);
    }

    static void shiftUpToEitherEnd() {
        PaintFrames x = twoRowsOfInts();
        due("to the one's end", x.shift(0, 4, 1, 0, 1), 1);
        due("to the other's end", x.shift(0, 0, 1, 2, 1), 1);
        dueItems(x, "the other", 1, 5, 8, 1);
        due("all of it", x.shift(1, 0, 0, 2, 3), 3);
        dueItems(x, "the one", 0, 1, 2, 5, 8, 1);
    }

    static void shiftOfSixty() {
        PaintFrames x = new PaintFrames();
        x.tape(4, LONGS, 60);
        x.tape(5, LONGS, 60);
        x.item(4, 59, Long.MIN_VALUE + 1);
        due("sixty", x.shift(4, 0, 5, 0, 60), 60);
        due("the last", x.peek(5, 59), Long.MIN_VALUE + 1);
        due("sixty-one", x.shift(4, 0, 5, 0, 61), PLACE);
    }

    /** Tape 4 of the rich object becomes ints, too, so that two of them are alike. */
    private static void ints(PaintFrames x) {
        x.tape(4, INTS, 4);
        write(x, 4, 0, 5, 6, 7, 8);
    }

    static void shiftBelowZeroOrBeyond() {
        int[][] wrong = {
            {0, 0, -1}, {0, 0, MIN}, {-1, 0, 1}, {0, -1, 1}, {-1, 0, 0}, {0, -1, 0}, {MIN, 0, 1}, {0, MIN, 1},
            {0, 0, 3}, {1, 0, 2}, {2, 0, 1}, {3, 0, 0}, {0, 3, 2}, {0, 4, 1}, {0, 5, 0}, {0, 0, MAX}, {MAX, 0, 1},
            {0, MAX, 1}, {MAX, MAX, MAX}, {1, 1, MAX}, {-1, -1, -1}};
        for (int[] w : wrong) {
            refused("shift(2, " + w[0] + ", 4, " + w[1] + ", " + w[2] + ")", PLACE,
                    x -> x.shift(2, w[0], 4, w[1], w[2]), TapeBoundsTest::ints);
        }
        refused("beyond the other's end", PLACE, x -> x.shift(4, 0, 2, 0, 3), TapeBoundsTest::ints);
        refused("on the same one", PLACE, x -> x.shift(4, 1, 4, 0, 4), TapeBoundsTest::ints);
    }

    static void shiftNoSuchTape() {
        for (int tape : new int[] {-1, 6, MIN, MAX}) {
            refused("shift(" + tape + ", 0, 2, 0, 1)", NONE, x -> x.shift(tape, 0, 2, 0, 1));
            refused("shift(2, 0, " + tape + ", 0, 1)", NONE, x -> x.shift(2, 0, tape, 0, 1));
        }
    }

    static void shiftOfNothing() {
        refused("of a tape that holds nothing", NOTHING, x -> x.shift(5, 0, 2, 0, 0));
        refused("to a tape that holds nothing", NOTHING, x -> x.shift(2, 0, 5, 0, 0));
        refused("of both", NOTHING, x -> x.shift(5, 0, 5, 0, 0));
    }

    static void shiftOfUnlikeSorts() {
        for (int tape = 0; tape < 5; tape++) {
            for (int other = 0; other < 5; other++) {
                int from = tape;
                int to = other;
                if (from != to) {
                    refused("shift(" + from + ", 0, " + to + ", 0, 1)", CAST, x -> x.shift(from, 0, to, 0, 1));
                }
            }
            due("of like sorts", Given.rich().shift(tape, 0, tape, 1, 1), 1);
        }
    }

    static void shiftNoneAheadOfNothingAheadOfCastAheadOfPlace() {
        refused("NONE, NOTHING", NONE, x -> x.shift(6, 0, 5, 0, 0));
        refused("NONE, NOTHING, the other way", NONE, x -> x.shift(5, 0, 6, 0, 0));
        refused("NONE, PLACE", NONE, x -> x.shift(-1, -1, 2, -1, -1));
        refused("NOTHING, CAST", NOTHING, x -> x.shift(5, 0, 0, 0, 1));
        refused("NOTHING, PLACE", NOTHING, x -> x.shift(2, -1, 5, 0, 1));
        refused("CAST, PLACE by n", CAST, x -> x.shift(0, 0, 1, 0, -1));
        refused("CAST, PLACE by i", CAST, x -> x.shift(0, -1, 1, 0, 1));
        refused("CAST, PLACE by j", CAST, x -> x.shift(0, 0, 1, 60, 1));
    }

    public static void main(String[] args) throws Exception {
        runAll(TapeBoundsTest.class);
    }
}
