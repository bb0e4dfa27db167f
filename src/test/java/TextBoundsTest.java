/** THE TEXT, its FAULT, TROUBLE, promises 26 to 28: each sentence that names a boundary, just inside it, on it, just outside. */
public final class TextBoundsTest extends Bounds {
    private static final String TWELVE = "k1;k2;k1;k2;k1;k2;k1;k2;k1;k2;k1;k2";

    /** A text read by the rich object ends with this FAULT, is empty then, and has done nothing. */
    private static void fault(String text, int at, int... sortsAndNumbers) {
        PaintFrames x = Given.rich();
        x.read();
        PaintFrames y = Given.rich();
        y.read();
        Given.feed(x, text);
        due("read() of " + text, x.read(), -10 - at);
        due("count(2) behind " + text, x.count(2), 0);
        dueCauses(x, sortsAndNumbers);
        sameButForTrouble(text, Given.shownBy(x), Given.shownBy(y));
    }

    private static PaintFrames read(String text, int done) {
        PaintFrames x = new PaintFrames();
        due("read() of " + text, Given.read(x, text), done);
        due("count(2) behind " + text, x.count(2), 0);
        return x;
    }

    // ---- feed: a sign (0 .. 127). BAD; FULL. THE TEXT (bytes, 100 at most)

    static void signsFromZeroToTheLast() {
        PaintFrames x = new PaintFrames();
        due("feed(0)", x.feed(0), 1);
        due("feed(1)", x.feed(1), 2);
        due("feed(126)", x.feed(126), 3);
        due("feed(127)", x.feed(127), 4);
    }

    static void signsThatAreNoneAreBad() {
        for (int sign : new int[] {-1, 128, 129, 255, 256 + 'k', MIN, MAX}) {
            refused("feed(" + sign + ")", BAD, x -> x.feed(sign));
        }
    }

    static void theHundredthSignAndTheNext() {
        PaintFrames x = new PaintFrames();
        for (int i = 1; i <= 100; i++) {
            due("feed " + i, x.feed(i <= 35 ? TWELVE.charAt(i - 1) : 'z'), i);
        }
        due("count", x.count(2), 100);
        due("the next", x.feed('k'), FULL);
        due("and the next", x.feed(';'), FULL);
        due("count again", x.count(2), 100);
        due("what is read", x.read(), -45);
        due("it has room again", x.feed('k'), 1);
    }

    static void feedFullChangesNothing() {
        refused("feed('k')", FULL, x -> x.feed('k'), Given::fillText);
    }

    static void feedBadAheadOfFull() {
        refused("feed(-1)", BAD, x -> x.feed(-1), Given::fillText);
        refused("feed(128)", BAD, x -> x.feed(128), Given::fillText);
    }

    // ---- CLAUSES, 1 to 12, with ; between

    static void oneClauseAndTwelve() {
        read("k3", 1);
        due("the last holds", read(TWELVE, 12).told(1), 2);
        due("eleven", read(TWELVE.substring(3), 11).told(1), 2);
    }

    static void noClauseAtAll() {
        fault("", 0, 1, 0, 2, 0, 4, -1);
        fault(";", 0, 1, 0, 2, 0, 4, ';');
    }

    static void aThirteenthClause() {
        fault(TWELVE + ";k1", 35, 1, 12, 4, ';');
        fault(TWELVE + ";", 35, 1, 12, 4, ';');
        fault(TWELVE + "1", 35, 1, 12, 4, '1');
    }

    static void twelveClausesWithTheLastUnended() {
        fault(TWELVE.substring(0, 34), 34, 1, 11, 2, 33, 3, 34);
        fault(TWELVE.substring(0, 33), 33, 1, 11, 2, 33, 4, -1);
        fault(TWELVE.substring(0, 33) + "x", 33, 1, 11, 2, 33, 4, 'x');
    }

    static void twelveLongestClauses() {
        PaintFrames x = read("t654321;t654321;t654321;t654321;t654321;t654321;"
                + "m654321;m654321;m654321;m654321;m654321;m654321", 0);
        due("all are refused: four places", x.told(2), 0);
        PaintFrames y = read("n6;m654321;t654321;t123456;m123456;t123456;n5;t54321;n6;t123456;m654321;k3", 11);
        due("generators", y.told(2), 2);
    }

    static void twoSeparators() {
        fault("k3;;k2", 3, 1, 1, 2, 3, 4, ';');
        fault(";k3", 0, 1, 0, 2, 0, 4, ';');
    }

    static void aSeparatorAtTheEnd() {
        fault("k3;", 3, 1, 1, 2, 3, 4, -1);
        fault("n4;t2341;", 9, 1, 2, 2, 9, 4, -1);
    }

    // ---- n PLACES; k KINDS; w KIND WEIGHT (a digit each, in all three); t ROW; m ROW

    static void clausesOfOneDigit() {
        due("places", read("n6", 1).told(0), 6);
        due("kinds", read("k4", 1).told(1), 4);
        fault("n", 1, 1, 0, 2, 0, 3, 1);
        fault("k", 1, 1, 0, 2, 0, 3, 1);
        fault("n;", 1, 1, 0, 2, 0, 3, 1);
        fault("nx", 1, 1, 0, 2, 0, 3, 1);
        fault("n44", 2, 1, 1, 4, '4');
        fault("k33;k2", 2, 1, 1, 4, '3');
    }

    static void clausesOfTwoDigits() {
        due("weight", read("w29", 1).weight(2, 0), 9);
        fault("w", 1, 1, 0, 2, 0, 3, 1);
        fault("w;", 1, 1, 0, 2, 0, 3, 1);
        fault("w2", 2, 1, 0, 2, 0, 3, 2);
        fault("w2;k3", 2, 1, 0, 2, 0, 3, 2);
        fault("w2k", 2, 1, 0, 2, 0, 3, 2);
        fault("w299", 3, 1, 1, 4, '9');
        fault("k3;w299", 6, 1, 2, 4, '9');
    }

    static void rowsOfOneToSixDigits() {
        for (String row : new String[] {"1", "12", "123", "12345", "123456", "000000", "999999"}) {
            due("no generator by " + row, read("t" + row, 0).told(2), 0);
            read("m" + row + ";k3", 1);
        }
        fault("t", 1, 1, 0, 2, 0, 3, 1);
        fault("m;", 1, 1, 0, 2, 0, 3, 1);
        fault("t1234567", 7, 1, 1, 4, '7');
        fault("k3;m0001234", 10, 1, 2, 4, '4');
        fault("t12x", 3, 1, 1, 4, 'x');
    }

    static void zerosAheadOfARowFallAway() {
        PaintFrames x = read("t02341;m001432", 2);
        due("a turn", x.of(0, 0), 2341);
        due("its hand", x.of(0, 1), 0);
        due("a mirror", x.of(1, 0), 1432);
        due("its hand", x.of(1, 1), 1);
    }

    static void signsBesideTheDigits() {
        fault("k/", 1, 1, 0, 2, 0, 3, 1);
        fault("k:", 1, 1, 0, 2, 0, 3, 1);
        fault("t123/", 4, 1, 1, 4, '/');
        fault("t123:", 4, 1, 1, 4, ':');
        due("0", read("w20", 1).weight(2, 2), 0);
        due("9", read("w29", 1).weight(2, 2), 9);
    }

    static void signsBesideTheSeparator() {
        fault("k3:k2", 2, 1, 1, 4, ':');
        fault("k3<k2", 2, 1, 1, 4, '<');
    }

    static void signsThatBeginNoClause() {
        for (char c : "jlousvxNKWTM0 \0\177".toCharArray()) {
            fault(c + "3", 0, 1, 0, 2, 0, 4, c);
            fault("k3;" + c, 3, 1, 1, 2, 3, 4, c);
        }
    }

    static void nothingElseStandsBetween() {
        fault(" k3", 0, 1, 0, 2, 0, 4, ' ');
        fault("k 3", 1, 1, 0, 2, 0, 3, 1);
        fault("k3 ;k2", 2, 1, 1, 4, ' ');
        fault("k3; k2", 3, 1, 1, 2, 3, 4, ' ');
        fault("k3;k2 ", 5, 1, 2, 4, ' ');
        fault("k3\n", 2, 1, 1, 4, '\n');
    }

    static void aHundredBytes() {
        fault("t000001;".repeat(11) + "k3;k2;k1;k22", 90, 1, 12, 4, ';');
        fault("t000001;".repeat(11) + "t0000011ssss", 95, 1, 12, 4, '1');
    }

    /** The FAULT is told by the first byte that fits nothing, whatever stands behind. */
    static void onlyTheFirstFaultIsTold() {
        fault("k3;x;y", 3, 1, 1, 2, 3, 4, 'x');
        fault("n;k;w", 1, 1, 0, 2, 0, 3, 1);
    }

    static void aFaultDoesNoneOfTheClauses() {
        PaintFrames x = new PaintFrames();
        due("read()", Given.read(x, "n6;k4;w09;t234561;q"), -28);
        due("places", x.told(0), 4);
        due("kinds", x.told(1), 2);
        due("weight", x.weight(0, 0), 0);
        due("generators", x.told(2), 0);
    }

    // ---- they are done, one behind the other; those that would be refused aren't

    static void refusedClausesAreNotDone() {
        PaintFrames x = Given.rich();
        x.read();
        PaintFrames y = Given.rich();
        y.read();
        due("read()", Given.read(x, "n1;n7;n0;n9;k0;k5;k9;w40;w99;t1;t999999"), 0);
        due("rows", Given.read(x, "t12345;t1235;t1224;m0;m123;m5123"), 0);
        same("refused clauses", Given.shownBy(x), Given.shownBy(y));
    }

    static void clausesJustInsideAndOutside() {
        read("n2;n6;k1;k4;w00;w39;t123456;m123456", 8);
        read("n2;n1;k1;k0;w39;w49;t21;t22;m12;m13", 5);
        read("n6;n7;k4;k5;w30;w40", 3);
    }

    static void clausesBeyondFourGenerators() {
        PaintFrames x = read("t2341;t2341;t2341;t2341;t2341;m1432;k3", 5);
        due("generators", x.told(2), 4);
        due("no trouble by FULL", x.cause(0, 0), NIL);
    }

    static void clausesThatAreOver() {
        PaintFrames x = read("n5;t23451;t21345;m12345;k3", 4);
        due("generators", x.told(2), 2);
        due("kinds", x.told(1), 3);
        dueCauses(x, 5, 2, 6, 120);
    }

    static void theLatestOfTwoThatAreOver() {
        PaintFrames x = read("n6;t234561;t213456;n5;t23451;t21345;m12345", 5);
        dueCauses(x, 5, 2, 6, 120);
        PaintFrames y = read("n5;t23451;t21345;m12345;n6;t234561;t213456", 5);
        dueCauses(y, 5, 1, 6, 120);
    }

    static void clausesAreDoneInTheirOrder() {
        due("places, then a row", read("n3;t231", 2).told(2), 1);
        due("a row, then places", read("t231;n3", 1).told(2), 0);
        due("kinds", read("k1;k3;k2", 3).told(1), 2);
        due("weights", read("w15;w16", 2).weight(1, 0), 6);
    }

    // ---- cause: Of TROUBLE (i 0), its CAUSE (1), and so on; -5. NONE: i is below 0, what

    static void thereIsNoTroubleAtFirst() {
        dueCauses(new PaintFrames());
        due("far behind", new PaintFrames().cause(MAX, 1), NIL);
    }

    static void causesUpToTheLast() {
        PaintFrames x = Given.rich();
        dueCauses(x, 1, 1, 2, 3, 4, 'x');
        due("far behind", x.cause(MAX, 0), NIL);
    }

    static void aShorterTroubleLeavesNoneOfTheLonger() {
        PaintFrames x = Given.rich();
        x.read();
        due("three of them", Given.read(x, "w1"), -12);
        due("the third", x.cause(2, 0), 3);
        due("two of them", Given.read(x, "k33"), -12);
        due("no third", x.cause(2, 0), NIL);
        due("no third's number", x.cause(2, 1), NIL);
    }

    static void causeBelowZero() {
        for (int i : new int[] {-1, -2, MIN}) {
            refused("cause(" + i + ", 0)", NONE, x -> x.cause(i, 0));
        }
    }

    static void causeNoSuchWhat() {
        for (int what : new int[] {-1, 2, 3, MIN, MAX}) {
            refused("cause(0, " + what + ")", NONE, x -> x.cause(0, what));
        }
    }

    static void causeNoneAheadOfThereIsNone() {
        refused("cause(3, 2)", NONE, x -> x.cause(3, 2));
        refused("cause(-1, 2)", NONE, x -> x.cause(-1, 2));
    }

    // ---- TROUBLE stays till the next such

    static void troubleStaysByOtherRefusals() {
        PaintFrames x = Given.rich();
        due("BAD", x.places(7), BAD);
        due("NONE", x.of(9, 0), NONE);
        due("CAST", x.lay(1, 0, 1), CAST);
        due("FULL", x.feed(128), BAD);
        dueCauses(x, 1, 1, 2, 3, 4, 'x');
    }

    static void troubleStaysByAReadWithoutFault() {
        PaintFrames x = Given.rich();
        x.read();
        dueCauses(x, 1, 1, 2, 3, 4, 'x');
        due("refused clauses", Given.read(x, "k9;t1"), 0);
        dueCauses(x, 1, 1, 2, 3, 4, 'x');
    }

    static void troubleStaysByPlacesAndUndo() {
        PaintFrames x = Given.rich();
        x.places(3);
        x.undo();
        dueCauses(x, 1, 1, 2, 3, 4, 'x');
    }

    static void troubleByOverTakesThePlaceOfAFault() {
        PaintFrames x = Given.rich();
        Given.fillMoves(x);
        due("OVER", x.generator(12345, 1), OVER);
        dueCauses(x, 5, 2, 6, 120);
        x.read();
        due("FAULT", Given.read(x, "k"), -11);
        dueCauses(x, 1, 0, 2, 0, 3, 1);
    }

    public static void main(String[] args) throws Exception {
        runAll(TextBoundsTest.class);
    }
}
