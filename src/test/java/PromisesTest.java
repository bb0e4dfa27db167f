/** For each promise of the document a run of calls: ordinary inputs, the edges that it names, wrong inputs. */
public final class PromisesTest {
    private static final int NONE = -1, BAD = -2, STATE = -3, FULL = -4, OVER = -15;
    private static final int NOTHING = -11, CAST = -12, PLACE = -13, SIZE = -14, NIL = -5;
    private static final long NO = Long.MIN_VALUE;
    private static final int MIN = Integer.MIN_VALUE, MAX = Integer.MAX_VALUE;
    private static final Check check = new Check("PromisesTest");

    private static void due(String call, long got, long want) {
        check.due(call, got, want);
    }

    /** The square: its turns by 2341, its mirrors by 1432 with that. */
    private static PaintFrames square() {
        PaintFrames x = new PaintFrames();
        due("square generator 0", x.generator(2341, 0), 0);
        due("square generator 1", x.generator(1432, 1), 1);
        return x;
    }

    /** The triangle of three kinds with turns alone but for one mirror, which has 6 moves. */
    private static PaintFrames triangle() {
        PaintFrames x = new PaintFrames();
        due("triangle places", x.places(3), 4);
        due("triangle kinds", x.kinds(3), 2);
        due("triangle generator 0", x.generator(231, 0), 0);
        due("triangle generator 1", x.generator(132, 1), 1);
        return x;
    }

    private static void feedAll(PaintFrames x, String text) {
        for (int i = 0; i < text.length(); i++) {
            x.feed(text.charAt(i));
        }
    }

    private static int readText(PaintFrames x, String text) {
        feedAll(x, text);
        return x.read();
    }

    private static void dueCauses(PaintFrames x, String name, int... sortsAndNumbers) {
        for (int i = 0; i < 4; i++) {
            boolean there = 2 * i < sortsAndNumbers.length;
            due(name + " cause(" + i + ", 0)", x.cause(i, 0), there ? sortsAndNumbers[2 * i] : NIL);
            due(name + " cause(" + i + ", 1)", x.cause(i, 1), there ? sortsAndNumbers[2 * i + 1] : NIL);
        }
    }

    private static void p1NewObject() {
        PaintFrames x = new PaintFrames();
        int[] told = {4, 2, 0, 1, 1, 16, 16, 16, 0};
        for (int what = 0; what < told.length; what++) {
            due("1 told(" + what + ")", x.told(what), told[what]);
        }
        for (int kind = 0; kind < 4; kind++) {
            due("1 weight(" + kind + ", 0)", x.weight(kind, 0), kind);
        }
        for (int what = 0; what < 3; what++) {
            due("1 count(" + what + ")", x.count(what), 0);
        }
        for (int t = 0; t < 6; t++) {
            due("1 item(" + t + ", 0, 0)", x.item(t, 0, 0), NOTHING);
        }
        for (int r = 0; r < 3; r++) {
            for (int p = 10; p < 13; p++) {
                due("1 rack(" + r + ", " + p + ")", x.rack(r, p), NIL);
            }
        }
        due("1 undo()", x.undo(), STATE);
        dueCauses(x, "1");
        due("1 NO", PaintFrames.NO, Long.MIN_VALUE);
        due("1 OVER", PaintFrames.OVER, -15);
    }

    private static void p2Places() {
        PaintFrames x = square();
        x.lay(0, 0, 0);
        due("2 places(4)", x.places(4), 4);
        due("2 no generators", x.told(2), 0);
        due("2 racks hold nothing", x.rack(0, 10), NIL);
        due("2 one move", x.told(3), 1);
        due("2 places(2)", x.places(2), 4);
        due("2 paintings", x.told(5), 4);
        due("2 places(6)", x.places(6), 2);
        due("2 row of six", x.move(0, 0), 123456);
        for (int v : new int[] {1, 7, 0, -1, MIN, MAX}) {
            due("2 places(" + v + ")", x.places(v), BAD);
        }
        due("2 told(0)", x.told(0), 6);
        PaintFrames y = square();
        due("2 refused", y.places(7), BAD);
        due("2 refused keeps generators", y.told(2), 2);
    }

    private static void p3Kinds() {
        PaintFrames x = square();
        due("3 kinds(4)", x.kinds(4), 2);
        due("3 classes of the square", x.told(7), 55);
        due("3 kinds(1)", x.kinds(1), 4);
        due("3 one class", x.told(6), 1);
        for (int v : new int[] {0, 5, -1, MIN, MAX}) {
            due("3 kinds(" + v + ")", x.kinds(v), BAD);
        }
        due("3 told(1)", x.told(1), 1);
        due("3 generators stay", x.told(2), 2);
        due("3 kindOf after kinds", x.kindOf(0, 1, 0), NONE);
        due("3 kinds(2)", x.kinds(2), 1);
        due("3 kindOf after kinds again", x.kindOf(0, 5, 0), 1111);
    }

    private static void p4Weight() {
        PaintFrames x = new PaintFrames();
        due("4 weight(3, 9)", x.weight(3, 9), 3);
        due("4 weight(3, 0)", x.weight(3, 0), 9);
        due("4 weight(0, 7)", x.weight(0, 7), 0);
        due("4 weight(4, 10)", x.weight(4, 10), NONE);
        due("4 weight(-1, 0)", x.weight(-1, 0), NONE);
        due("4 weight(MIN, 0)", x.weight(MIN, 0), NONE);
        due("4 weight(0, 10)", x.weight(0, 10), BAD);
        due("4 weight(0, -1)", x.weight(0, -1), BAD);
        due("4 weight(0, 1)", x.weight(0, 1), 7);
        due("4 heavy of 0000", x.kindOf(0, 0, 2), 4);
    }

    private static void p5Generator() {
        PaintFrames x = new PaintFrames();
        for (int row : new int[] {0, -1234, 123, 12345, 1135, 1230, 2345, 1223, MIN, MAX, 1234000}) {
            due("5 generator(" + row + ", 0)", x.generator(row, 0), BAD);
        }
        due("5 hand 2", x.generator(1234, 2), BAD);
        due("5 hand -1", x.generator(1234, -1), BAD);
        for (int g = 0; g < 4; g++) {
            due("5 generator " + g, x.generator(2143, 0), g);
        }
        due("5 BAD ahead of FULL", x.generator(2144, 0), BAD);
        due("5 FULL", x.generator(2143, 0), FULL);
        due("5 moves", x.told(3), 2);

        PaintFrames y = new PaintFrames();
        y.places(5);
        due("5 five round", y.generator(23451, 0), 0);
        due("5 all of five places: 120", y.generator(21345, 0), 1);
        due("5 120 moves", y.told(3), 120);
        due("5 a mirror with them is OVER", y.generator(12345, 1), OVER);
        dueCauses(y, "5", 5, 2, 6, 120);
        due("5 nothing came", y.told(2), 2);
        due("5 still 120", y.told(3), 120);
        due("5 more turns fit", y.generator(54321, 0), 2);
        due("5 and more", y.generator(12345, 0), 3);
        due("5 FULL ahead of OVER", y.generator(12345, 1), FULL);
        due("5 the trouble stays", y.cause(0, 1), 2);

        PaintFrames z = new PaintFrames();
        due("5 class 2 of one move", z.kindOf(0, 2, 0), 10);
        due("5 the first row of all", z.generator(1234, 0), 0);
        due("5 a turn", z.generator(2341, 0), 1);
        due("5 class 2 by that turn", z.kindOf(0, 2, 0), 11);
    }

    private static void p6Drop() {
        PaintFrames x = square();
        x.lay(0, 0, 1);
        x.lay(0, 1, 0);
        x.lay(0, 2, 1);
        x.lay(2, 1, 1);
        due("6 class 3 by all", x.kindOf(1, 3, 0), 101);
        due("6 drop()", x.drop(), 1);
        due("6 moves", x.told(3), 4);
        due("6 rack 0 place 0", x.rack(0, 10), NIL);
        due("6 rack 0 place 1", x.rack(0, 11), 0);
        due("6 rack 0 place 2", x.rack(0, 12), NIL);
        due("6 rack 2 place 1", x.rack(2, 11), NIL);
        due("6 drop() again", x.drop(), 0);
        due("6 one move", x.told(3), 1);
        due("6 classes", x.kindOf(1, 15, 0), 1111);
        due("6 class 3 by none", x.kindOf(1, 3, 0), 11);
        due("6 none left", x.drop(), STATE);
    }

    private static void p7Of() {
        PaintFrames x = square();
        due("7 row", x.of(0, 0), 2341);
        due("7 hand 0", x.of(0, 1), 0);
        due("7 type", x.of(0, 2), 100);
        due("7 mirror's row", x.of(1, 0), 1432);
        due("7 mirror's hand", x.of(1, 1), 1);
        due("7 mirror's type", x.of(1, 2), 210000);
        due("7 of(2, 0)", x.of(2, 0), NONE);
        due("7 of(-1, 0)", x.of(-1, 0), NONE);
        due("7 of(0, 3)", x.of(0, 3), NONE);
        due("7 of(0, -1)", x.of(0, -1), NONE);
        due("7 of(MAX, MAX)", x.of(MAX, MAX), NONE);
        x.places(6);
        x.generator(234561, 1);
        due("7 a cycle of six", x.of(0, 2), 1);
        x.places(5);
        x.generator(23451, 1);
        due("7 a cycle of five", x.of(0, 2), 10);
        x.places(6);
        x.generator(215463, 0);
        due("7 cycles of 1, 2, 3", x.of(0, 2), 111000);
    }

    private static void p8Lay() {
        PaintFrames x = square();
        due("8 any", x.lay(0, 2, 1), NIL);
        due("8 held", x.lay(0, 2, 0), 1);
        due("8 held 0", x.lay(0, 2, -1), 0);
        due("8 nothing held", x.lay(0, 2, -1), NIL);
        due("8 a turn on rack 1", x.lay(1, 0, 0), NIL);
        due("8 a mirror on rack 1", x.lay(1, 0, 1), CAST);
        due("8 it holds what it held", x.rack(1, 10), 0);
        due("8 a mirror on rack 2", x.lay(2, 0, 1), NIL);
        due("8 a turn on rack 2", x.lay(2, 0, 0), CAST);
        due("8 nothing on rack 2", x.lay(2, 0, -1), 1);
        due("8 rack 3", x.lay(3, 0, 0), NONE);
        due("8 rack -1", x.lay(-1, 0, 0), NONE);
        due("8 generator 2", x.lay(0, 0, 2), NONE);
        due("8 generator -2", x.lay(0, 0, -2), NONE);
        due("8 place 3", x.lay(0, 3, 0), PLACE);
        due("8 place -1", x.lay(0, -1, 0), PLACE);
        due("8 NONE ahead of PLACE", x.lay(0, 3, 2), NONE);
        due("8 PLACE ahead of CAST", x.lay(1, 3, 1), PLACE);
        due("8 MAX", x.lay(MAX, MAX, MAX), NONE);
        due("8 MAX place", x.lay(0, MAX, 0), PLACE);
    }

    private static void p9Rack() {
        PaintFrames x = square();
        due("9 none: row", x.rack(0, 0), 1234);
        due("9 none: hand", x.rack(0, 1), 0);
        x.lay(0, 0, 0);
        x.lay(0, 2, 1);
        due("9 turn, mirror: row", x.rack(0, 0), 2143);
        due("9 turn, mirror: hand", x.rack(0, 1), 1);
        due("9 held 0", x.rack(0, 10), 0);
        due("9 held none", x.rack(0, 11), NIL);
        due("9 held 1", x.rack(0, 12), 1);
        x.lay(0, 0, 1);
        x.lay(0, 2, 0);
        due("9 mirror, turn: row", x.rack(0, 0), 4321);
        x.lay(0, 1, 1);
        due("9 mirror, mirror, turn: row", x.rack(0, 0), 2341);
        due("9 mirror, mirror, turn: hand", x.rack(0, 1), 0);
        x.lay(2, 0, 1);
        x.lay(2, 1, 1);
        x.lay(2, 2, 1);
        due("9 three mirrors", x.rack(2, 1), 1);
        for (int what : new int[] {2, 9, 13, -1, MIN, MAX}) {
            due("9 rack(0, " + what + ")", x.rack(0, what), NONE);
        }
        due("9 rack 3", x.rack(3, 0), NONE);
        due("9 rack -1", x.rack(-1, 10), NONE);
    }

    private static void p10Move() {
        PaintFrames x = triangle();
        int[] rows = {123, 132, 213, 231, 312, 321};
        int[] hands = {0, 1, 1, 0, 0, 1};
        int[] types = {300000, 110000, 110000, 1000, 1000, 110000};
        for (int i = 0; i < 6; i++) {
            due("10 row " + i, x.move(i, 0), rows[i]);
            due("10 hand " + i, x.move(i, 1), hands[i]);
            due("10 type " + i, x.move(i, 2), types[i]);
        }
        due("10 move(6, 0)", x.move(6, 0), NONE);
        due("10 move(-1, 0)", x.move(-1, 0), NONE);
        due("10 move(MAX, 0)", x.move(MAX, 0), NONE);
        due("10 move(0, 3)", x.move(0, 3), NONE);
        due("10 move(0, -1)", x.move(0, -1), NONE);
        due("10 a mirror that moves nothing", x.generator(123, 1), 2);
        due("10 hand 0 ahead: row", x.move(1, 0), 123);
        due("10 hand 0 ahead: hand 0", x.move(0, 1), 0);
        due("10 hand 0 ahead: hand 1", x.move(1, 1), 1);
        due("10 each of both hands", x.told(3), 12);
        due("10 turns", x.told(4), 6);
    }

    private static void p11Told() {
        PaintFrames x = triangle();
        int[] told = {3, 3, 2, 6, 3, 27, 11, 10, 1};
        for (int what = 0; what < told.length; what++) {
            due("11 told(" + what + ")", x.told(what), told[what]);
        }
        for (int what : new int[] {-1, 9, MIN, MAX}) {
            due("11 told(" + what + ")", x.told(what), NONE);
        }
        x.places(6);
        x.kinds(4);
        due("11 4096 paintings", x.told(5), 4096);
        due("11 4096 classes", x.told(7), 4096);
        x.generator(234561, 1);
        due("11 turns of a mirror twice", x.told(4), 3);
        due("11 classes by 0", x.told(6), 1376);
        due("11 classes by 1", x.told(7), 700);
        due("11 pairs", x.told(8), 676);
    }

    private static void p12Index() {
        PaintFrames x = triangle();
        due("12 how many by 0", x.index(0, -1, 0), 2);
        due("12 how many by 1, whatever what is", x.index(1, -1, 77), 3);
        due("12 type 0 by 0", x.index(0, 0, 0), 1000);
        due("12 often 0 by 0", x.index(0, 0, 1), 2);
        due("12 type 1 by 0", x.index(0, 1, 0), 300000);
        due("12 often 1 by 0", x.index(0, 1, 1), 1);
        due("12 type 1 by 1", x.index(1, 1, 0), 110000);
        due("12 often 1 by 1", x.index(1, 1, 1), 3);
        due("12 type 2 by 1", x.index(1, 2, 0), 300000);
        due("12 by 2", x.index(2, -1, 0), NONE);
        due("12 by -1", x.index(-1, 0, 0), NONE);
        due("12 k 2 by 0", x.index(0, 2, 0), NONE);
        due("12 k -2", x.index(0, -2, 0), NONE);
        due("12 k MAX", x.index(0, MAX, 0), NONE);
        due("12 what 2", x.index(0, 0, 2), NONE);
        due("12 what -1", x.index(0, 0, -1), NONE);
    }

    private static void p13Part() {
        PaintFrames x = triangle();
        due("13 2 of 3 above", x.part(0, 0, 0), 2);
        due("13 2 of 3 below", x.part(0, 0, 1), 3);
        due("13 2 of 6 above", x.part(1, 0, 0), 1);
        due("13 2 of 6 below", x.part(1, 0, 1), 3);
        due("13 3 of 6 below", x.part(1, 1, 1), 2);
        due("13 1 of 6 below", x.part(1, 2, 1), 6);
        due("13 by 2", x.part(2, 0, 0), NO);
        due("13 k -1", x.part(0, -1, 0), NO);
        due("13 k 2", x.part(0, 2, 0), NO);
        due("13 part 2", x.part(0, 0, 2), NO);
        due("13 part -1", x.part(0, 0, -1), NO);
        due("13 one move", new PaintFrames().part(1, 0, 1), 1);
    }

    private static void p14Many() {
        PaintFrames x = triangle();
        due("14 by 0 for 3", x.many(0, 3), 11);
        due("14 by 1 for 3", x.many(1, 3), 10);
        due("14 by 1 for 9", x.many(1, 9), 165);
        due("14 for 1", x.many(1, 1), 1);
        due("14 for 0", x.many(0, 0), 0);
        due("14 by 2", x.many(2, 0), NO);
        due("14 by -1", x.many(-1, 0), NO);
        due("14 x 10", x.many(0, 10), NO);
        due("14 x -1", x.many(0, -1), NO);
        x.places(6);
        due("14 nine to six", x.many(0, 9), 531441);
    }

    private static void p15Least() {
        PaintFrames x = triangle();
        due("15 by 0", x.least(0, 210), 21);
        due("15 by 1", x.least(1, 210), 12);
        due("15 itself", x.least(1, 222), 222);
        due("15 of 0s alone", x.least(0, 0), 0);
        due("15 by 2", x.least(2, 0), NONE);
        due("15 by ahead of painting", x.least(-1, -1), NONE);
        for (int p : new int[] {3, 30, 300, 1000, -1, MIN, MAX}) {
            due("15 least(0, " + p + ")", x.least(0, p), BAD);
        }
    }

    private static void p16Size() {
        PaintFrames x = triangle();
        due("16 by 0", x.size(0, 210), 3);
        due("16 by 1", x.size(1, 210), 6);
        due("16 one", x.size(1, 111), 1);
        due("16 of 0s alone", x.size(1, 0), 1);
        due("16 three by 1", x.size(1, 100), 3);
        due("16 by 2", x.size(2, 3), NONE);
        due("16 kind 3", x.size(0, 3), BAD);
        due("16 four digits", x.size(0, 1000), BAD);
        due("16 -1", x.size(0, -1), BAD);
    }

    private static void p17KindOf() {
        PaintFrames x = triangle();
        x.weight(2, 7);
        int[] leasts = {0, 1, 2, 11, 12, 22, 111, 112, 122, 222};
        int[] sizes = {1, 3, 3, 3, 6, 3, 1, 3, 3, 1};
        int[] heavy = {0, 1, 7, 2, 8, 14, 3, 9, 15, 21};
        int[] uses = {3000, 2100, 2010, 1200, 1110, 1020, 300, 210, 120, 30};
        for (int i = 0; i < leasts.length; i++) {
            due("17 least " + i, x.kindOf(1, i, 0), leasts[i]);
            due("17 size " + i, x.kindOf(1, i, 1), sizes[i]);
            due("17 heavy " + i, x.kindOf(1, i, 2), heavy[i]);
            due("17 use " + i, x.kindOf(1, i, 3), uses[i]);
        }
        due("17 by 0 has the other hand", x.kindOf(0, 5, 0), 21);
        due("17 i 10 by 1", x.kindOf(1, 10, 0), NONE);
        due("17 i 10 by 0", x.kindOf(0, 10, 0), 222);
        due("17 i -1", x.kindOf(0, -1, 0), NONE);
        due("17 i MAX", x.kindOf(0, MAX, 0), NONE);
        due("17 what 4", x.kindOf(0, 0, 4), NONE);
        due("17 what -1", x.kindOf(0, 0, -1), NONE);
        due("17 by 2", x.kindOf(2, 0, 0), NONE);
    }

    private static void p18Heavy() {
        PaintFrames x = triangle();
        due("18 3 by 0", x.heavy(0, 3), 3);
        due("18 3 by 1", x.heavy(1, 3), 2);
        due("18 0", x.heavy(1, 0), 1);
        due("18 99", x.heavy(1, 99), 0);
        x.weight(0, 9);
        due("18 other weights", x.heavy(1, 27), 1);
        due("18 -1", x.heavy(1, -1), BAD);
        due("18 100", x.heavy(1, 100), BAD);
        due("18 by 2", x.heavy(2, 100), NONE);
        due("18 by -1", x.heavy(-1, 0), NONE);
    }

    private static void p19Use() {
        PaintFrames x = triangle();
        due("19 by 0", x.use(0, 1110), 2);
        due("19 by 1", x.use(1, 1110), 1);
        due("19 all of kind 2", x.use(1, 30), 1);
        due("19 all of kind 0", x.use(1, 3000), 1);
        due("19 of a kind that there is not", x.use(1, 2001), 0);
        due("19 0", x.use(1, 0), 0);
        due("19 9999", x.use(1, 9999), 0);
        due("19 10000", x.use(1, 10000), BAD);
        due("19 -1", x.use(1, -1), BAD);
        due("19 by 2", x.use(2, -1), NONE);
        x.kinds(4);
        due("19 of kind 3", x.use(1, 2001), 1);
    }

    private static void p20Same() {
        PaintFrames x = triangle();
        due("20 turned", x.same(0, 12, 201), 1);
        due("20 mirrored by 0", x.same(0, 12, 21), 0);
        due("20 mirrored by 1", x.same(1, 12, 21), 1);
        due("20 others", x.same(1, 12, 11), 0);
        due("20 itself", x.same(0, 12, 12), 1);
        due("20 0s alone", x.same(0, 0, 0), 1);
        due("20 a", x.same(0, 13, 12), BAD);
        due("20 b", x.same(0, 12, 1000), BAD);
        due("20 by", x.same(2, 13, 13), NONE);
    }

    private static void p21Handed() {
        PaintFrames x = triangle();
        due("21 handed", x.handed(120, 0), 1);
        due("21 other hand", x.handed(120, 1), 21);
        due("21 other hand of that", x.handed(21, 1), 12);
        due("21 not handed", x.handed(100, 0), 0);
        due("21 other hand of one that is not", x.handed(100, 1), 1);
        due("21 0s alone", x.handed(0, 1), 0);
        due("21 what 2", x.handed(999, 2), NONE);
        due("21 what -1", x.handed(0, -1), NONE);
        due("21 painting", x.handed(3, 0), BAD);
        due("21 painting -1", x.handed(-1, 1), BAD);
        x.drop();
        due("21 no mirrors", x.handed(120, 0), 0);
        due("21 no other hand", x.handed(120, 1), NIL);
        due("21 BAD without mirrors", x.handed(3, 1), BAD);
        x.generator(123, 1);
        due("21 a mirror that moves nothing", x.handed(120, 0), 0);
        due("21 its other hand", x.handed(120, 1), 12);
    }

    private static void p22Even() {
        PaintFrames x = triangle();
        due("22 by 0", x.even(0), Float.floatToIntBits(11f / 27f));
        due("22 by 1", x.even(1), Float.floatToIntBits(10f / 27f));
        due("22 by 2", x.even(2), NONE);
        due("22 by -1", x.even(-1), NONE);
        due("22 one", new PaintFrames().even(0), Float.floatToIntBits(1f));
    }

    private static void p23Likely() {
        PaintFrames x = triangle();
        due("23 by 0", x.likely(0, 12), Double.doubleToLongBits(3.0 / 27.0));
        due("23 by 1", x.likely(1, 12), Double.doubleToLongBits(6.0 / 27.0));
        due("23 by 2", x.likely(2, 12), NO);
        due("23 painting", x.likely(0, 13), NO);
        due("23 -1", x.likely(0, -1), NO);
        x.kinds(1);
        due("23 one", x.likely(0, 0), Double.doubleToLongBits(1.0));
        x.places(6);
        x.kinds(4);
        due("23 the least likely", x.likely(0, 0), Double.doubleToLongBits(1.0 / 4096.0));
    }

    private static void p24Mean() {
        PaintFrames x = triangle();
        due("24 bits", x.mean(112, 0), Float.floatToIntBits(4f / 3f));
        due("24 nothing", x.mean(0, 0), 0);
        due("24 one", x.mean(111, 0), Float.floatToIntBits(1f));
        due("24 two", x.mean(222, 0), Float.floatToIntBits(2f));
        due("24 round down", x.mean(112, 1), 1);
        due("24 round up", x.mean(122, 1), 2);
        x.weight(2, 9);
        due("24 nine", x.mean(222, 0), Float.floatToIntBits(9f));
        x.places(4);
        due("24 a half rounds up", x.mean(110, 1), 1);
        due("24 painting", x.mean(3, 2), BAD);
        due("24 what", x.mean(0, 2), NONE);
        due("24 what -1", x.mean(0, -1), NONE);
    }

    private static void p25Spread() {
        PaintFrames x = triangle();
        double m = 3.0 / 3.0;
        double sum = 0.0 + (0.0 - m) * (0.0 - m) + (1.0 - m) * (1.0 - m) + (2.0 - m) * (2.0 - m);
        due("25 bits", x.spread(12, 0), Double.doubleToLongBits(sum / 3.0));
        double third = 1.0 / 3.0;
        sum = 0.0 + (0.0 - third) * (0.0 - third) + (0.0 - third) * (0.0 - third) + (1.0 - third) * (1.0 - third);
        due("25 bits of thirds", x.spread(1, 0), Double.doubleToLongBits(sum / 3.0));
        due("25 none", x.spread(222, 0), 0);
        due("25 cast", x.spread(12, 1), 0);
        x.weight(2, 9);
        due("25 cast of more", x.spread(2, 1), 18);
        due("25 bits of more", x.spread(2, 0), Double.doubleToLongBits(18.0));
        x.weight(1, 3);
        due("25 bits of two", x.spread(11, 0), Double.doubleToLongBits(2.0));
        due("25 0s alone", x.spread(0, 0), 0);
        due("25 painting", x.spread(3, 0), NO);
        due("25 what", x.spread(0, 2), NO);
        due("25 what -1", x.spread(0, -1), NO);
    }

    private static void p26Feed() {
        PaintFrames x = new PaintFrames();
        due("26 -1", x.feed(-1), BAD);
        due("26 128", x.feed(128), BAD);
        due("26 0", x.feed(0), 1);
        due("26 127", x.feed(127), 2);
        for (int i = 3; i <= 100; i++) {
            due("26 sign " + i, x.feed('k'), i);
        }
        due("26 FULL", x.feed('k'), FULL);
        due("26 BAD ahead of FULL", x.feed(128), BAD);
        due("26 count", x.count(2), 100);
    }

    private static void p27Read() {
        PaintFrames x = new PaintFrames();
        due("27 all clauses", readText(x, "n3;k3;t231;m132;w29"), 5);
        due("27 classes", x.told(6), 11);
        due("27 moves", x.told(3), 6);
        due("27 weight", x.weight(2, 2), 9);
        due("27 the text is empty", x.count(2), 0);
        due("27 refused ones aren't done", readText(x, "n1;n7;k0;k5;w40;t12;t2313;m999999;k2"), 1);
        due("27 places as before", x.told(0), 3);
        due("27 0s ahead fall away", readText(x, "t000231"), 1);
        due("27 generators", x.told(2), 3);
        due("27 FULL ones aren't done", readText(x, "t231;m132"), 1);
        due("27 one behind the other", readText(x, "t23451;n5;t23451;n5"), 3);
        due("27 no generators", x.told(2), 0);
        due("27 OVER ones aren't done", readText(x, "t23451;t21345;m12345;k4"), 3);
        dueCauses(x, "27 OVER", 5, 2, 6, 120);
        due("27 twelve", readText(x, "k1;k2;k1;k2;k1;k2;k1;k2;k1;k2;k1;k2"), 12);
        due("27 a fault does nothing", readText(x, "k3;k"), -14);
        due("27 kinds", x.told(1), 2);
        due("27 empty by a fault, too", x.count(2), 0);
        due("27 empty", x.read(), -10);
        due("27 blank", readText(x, " k3"), -10);
        due("27 blank behind", readText(x, "k3 "), -12);
        due("27 capital", readText(x, "K3"), -10);
        due("27 ; at the end", readText(x, "k3;"), -13);
        due("27 ; alone", readText(x, ";"), -10);
        due("27 w", readText(x, "w1;k2"), -12);
        due("27 seven digits", readText(x, "t1234567"), -17);
        due("27 two digits", readText(x, "n34"), -12);
        due("27 thirteen", readText(x, "k1;k2;k1;k2;k1;k2;k1;k2;k1;k2;k1;k2;k1"), -45);
        due("27 a sign 0", readText(x, "k3\0"), -12);
        due("27 a hundred", readText(x, "k3;".repeat(33) + "k"), -45);
    }

    private static void p28Cause() {
        PaintFrames x = new PaintFrames();
        due("28 none", x.cause(0, 0), NIL);
        due("28 none, far", x.cause(MAX, 1), NIL);
        due("28 i", x.cause(-1, 0), NONE);
        due("28 i MIN", x.cause(MIN, 0), NONE);
        due("28 what 2", x.cause(0, 2), NONE);
        due("28 what -1", x.cause(9, -1), NONE);
        readText(x, "k3;w1");
        dueCauses(x, "28 digit at the end", 1, 1, 2, 3, 3, 5);
        readText(x, "wx");
        dueCauses(x, "28 digit", 1, 0, 2, 0, 3, 1);
        readText(x, "k3;n4;");
        dueCauses(x, "28 no clause at the end", 1, 2, 2, 6, 4, -1);
        readText(x, "k3;;");
        dueCauses(x, "28 no clause", 1, 1, 2, 3, 4, ';');
        readText(x, "");
        dueCauses(x, "28 empty", 1, 0, 2, 0, 4, -1);
        readText(x, "n4;t12345678");
        dueCauses(x, "28 a digit too many", 1, 2, 4, '7');
        readText(x, "t12x");
        dueCauses(x, "28 a short row is whole", 1, 1, 4, 'x');
        readText(x, "k1;k2;k1;k2;k1;k2;k1;k2;k1;k2;k1;k2;k1");
        dueCauses(x, "28 a ; behind the 12th", 1, 12, 4, ';');
        readText(x, "k1;k2;k1;k2;k1;k2;k1;k2;k1;k2;k1;k");
        dueCauses(x, "28 the 12th", 1, 11, 2, 33, 3, 34);
        readText(x, "k3");
        x.generator(1, 1);
        dueCauses(x, "28 it stays", 1, 11, 2, 33, 3, 34);
        x.places(6);
        x.generator(213456, 0);
        due("28 OVER", x.generator(234561, 1), OVER);
        dueCauses(x, "28 OVER", 5, 1, 6, 120);
        x.image();
        x.undo();
        due("28 it stays behind undo", x.cause(1, 1), 120);
    }

    private static void p29See() {
        PaintFrames x = new PaintFrames();
        due("29 a", x.see(2, 0, true), BAD);
        due("29 b", x.see(0, 2, true), BAD);
        due("29 a -2", x.see(-2, 0, true), BAD);
        due("29 b -1", x.see(0, -1, true), BAD);
        for (int i = 1; i <= 5; i++) {
            due("29 row " + i, x.see(0, 1, false), i);
        }
        due("29 BAD ahead of FULL", x.see(0, 10000, false), BAD);
        due("29 FULL", x.see(0, 1, false), FULL);
        due("29 none then", x.see(-1, 9999, true), 0);
        due("29 count", x.count(0), 0);
        due("29 again", x.see(1, 1, true), 1);
    }

    private static void p30Fits() {
        PaintFrames x = square();
        x.kinds(3);
        due("30 nothing seen: all", x.fits(0), 4);
        due("30 the least", x.fits(1), 0);
        x.see(1, 100, true);
        due("30 mirror takes 1 to 100, turns too", x.fits(0), 3);
        due("30 least of them", x.fits(1), 1);
        x.see(1, 10, false);
        due("30 the mirror alone", x.fits(0), 1);
        due("30 least 2", x.fits(1), 2);
        x.see(2, 2, false);
        due("30 nothing fits", x.fits(0), 0);
        due("30 no least", x.fits(1), NIL);
        due("30 what 2", x.fits(2), NONE);
        due("30 what -1", x.fits(-1), NONE);
        x.see(-1, 0, true);
        x.see(2, 1, false);
        due("30 told of kinds 0 to 2", x.fits(0), 4);
        x.kinds(2);
        due("30 of a kind that there is not", x.fits(0), 0);
        x.kinds(3);
        due("30 there it is again", x.fits(0), 4);
        x.see(-1, 0, true);
        x.see(1, 2000, false);
        x.kinds(2);
        due("30 of one at place 0 of b", x.fits(0), 0);
        x.kinds(3);
        x.places(3);
        due("30 other places", x.fits(0), 0);
        due("30 other places: none", x.fits(1), NIL);
        x.places(4);
        due("30 as many again", x.fits(0), 1);
        due("30 none of them", x.fits(1), 0);
        x.see(2, 1, true);
        due("30 of unlike uses", x.fits(0), 0);
        PaintFrames y = new PaintFrames();
        y.see(1, 1, true);
        y.places(5);
        y.see(1, 10, false);
        due("30 one row of four places", y.fits(0), 0);
    }

    private static void p31Event() {
        PaintFrames x = new PaintFrames();
        due("31 what 3", x.event(3, 9), NONE);
        due("31 what -2", x.event(-2, 0), NONE);
        due("31 kinds 0", x.event(0, 0), BAD);
        due("31 kinds 5", x.event(0, 5), BAD);
        due("31 generator 4", x.event(1, 4), BAD);
        due("31 generator -1", x.event(2, -1), BAD);
        due("31 kinds 1", x.event(0, 1), 1);
        due("31 kinds 4", x.event(0, 4), 2);
        due("31 no generator 0 yet", x.event(1, 0), 3);
        due("31 generator 3", x.event(2, 3), 4);
        for (int i = 5; i <= 8; i++) {
            due("31 row " + i, x.event(2, 0), i);
        }
        due("31 FULL", x.event(2, 0), FULL);
        due("31 BAD ahead of FULL", x.event(2, 4), BAD);
        due("31 count", x.count(1), 8);
        due("31 none then", x.event(-1, 99), 0);
        due("31 none", x.count(1), 0);
    }

    private static void p32After() {
        PaintFrames x = square();
        due("32 no events", x.after(), 6);
        x.event(0, 3);
        due("32 kinds 3", x.after(), 21);
        x.event(1, 1);
        due("32 without the mirror", x.after(), 24);
        x.event(2, 1);
        due("32 what is no more is nothing", x.after(), 24);
        x.event(2, 0);
        due("32 of the other hand", x.after(), 24);
        x.event(1, 3);
        due("32 what there isn't is nothing", x.after(), 24);
        x.event(1, 0);
        due("32 without any", x.after(), 81);
        x.event(0, 2);
        due("32 the last kinds", x.after(), 16);
        due("32 all is as before", x.told(7), 6);
        due("32 generators, too", x.told(2), 2);

        PaintFrames y = new PaintFrames();
        y.places(5);
        y.generator(23451, 0);
        y.generator(21345, 0);
        y.event(2, 0);
        due("32 OVER isn't done", y.after(), 6);
        due("32 and is no trouble", y.cause(0, 0), NIL);
        y.event(1, 1);
        due("32 behind that", y.after(), 8);
    }

    private static void p33Judge() {
        PaintFrames x = square();
        due("33 by", x.judge(2, 0, 0), NONE);
        due("33 tape 6", x.judge(0, 6, 0), NONE);
        due("33 tape -1", x.judge(0, -1, 0), NONE);
        due("33 nothing held", x.judge(0, 0, 0), 100);
        for (int sort = 0; sort < 5; sort++) {
            x.tape(1, sort, 3);
            due("33 sort " + sort, x.judge(0, 1, -1), sort == 2 ? 100 : CAST);
        }
        x.tape(0, 2, 9);
        int[] leasts = {0, 1, 11, 101, 111, 1111};
        for (int i = 0; i < leasts.length; i++) {
            due("33 told so far", x.judge(1, 0, 2), i == 0 ? 1 : i);
            x.item(0, 2 + i, leasts[i]);
        }
        due("33 all as told", x.judge(1, 0, 2), NIL);
        due("33 from place 1 on", x.judge(1, 0, 1), 1);
        due("33 place -1", x.judge(1, 0, -1), 100);
        due("33 place MIN", x.judge(1, 0, MIN), 100);
        due("33 place 9", x.judge(1, 0, 9), 100);
        due("33 place MAX", x.judge(1, 0, MAX), 100);
        x.tape(2, 2, 3);
        x.shift(0, 2, 2, 0, 3);
        due("33 the row ends", x.judge(1, 2, 0), 103);
        x.item(2, 2, 12);
        due("33 otherwise ahead of the end", x.judge(1, 2, 0), 2);
        x.tape(2, 2, 0);
        due("33 an empty row", x.judge(1, 2, 0), 100);
    }

    private static void p34Image() {
        PaintFrames x = square();
        due("34 moves", x.image(), 8);
        x.drop();
        due("34 taken anew", x.image(), 4);
        x.drop();
        due("34 the latest", x.undo(), 4);
    }

    private static void p35Undo() {
        PaintFrames x = square();
        due("35 none", x.undo(), STATE);
        x.kinds(3);
        x.weight(1, 8);
        x.lay(0, 1, 1);
        x.lay(2, 2, 1);
        x.see(1, 10, true);
        x.event(0, 4);
        x.image();
        x.kindOf(0, 0, 0);
        x.kinds(2);
        x.weight(1, 5);
        x.lay(0, 1, 0);
        x.see(1, 1, false);
        x.event(-1, 0);
        x.places(6);
        x.generator(234561, 0);
        x.tape(0, 2, 4);
        x.feed('k');
        due("35 moves", x.undo(), 8);
        due("35 places", x.told(0), 4);
        due("35 kinds", x.told(1), 3);
        due("35 generators", x.of(1, 0), 1432);
        due("35 weight", x.weight(1, 8), 8);
        due("35 racks", x.rack(0, 11), 1);
        due("35 the last rack", x.rack(2, 12), 1);
        due("35 seen", x.count(0), 1);
        due("35 seen fits", x.fits(0), 2);
        due("35 events", x.after(), 55);
        due("35 classes", x.kindOf(0, 23, 0), 2222);
        due("35 text stays", x.count(2), 1);
        due("35 tapes stay", x.peek(0, 3), 0);
        x.drop();
        x.lay(0, 1, 0);
        due("35 again", x.undo(), 8);
        due("35 racks again", x.rack(0, 11), 1);
    }

    private static void p36Count() {
        PaintFrames x = new PaintFrames();
        x.see(0, 0, true);
        x.event(0, 1);
        x.event(0, 2);
        feedAll(x, "k3;");
        for (int what = 0; what < 3; what++) {
            due("36 count(" + what + ")", x.count(what), what + 1);
        }
        for (int what : new int[] {-1, 3, MIN, MAX}) {
            due("36 count(" + what + ")", x.count(what), BAD);
        }
    }

    private static void p37Tape() {
        PaintFrames x = new PaintFrames();
        due("37 tape -1", x.tape(-1, 9, 99), NONE);
        due("37 tape 6", x.tape(6, 0, 0), NONE);
        due("37 sort 5", x.tape(0, 5, -1), BAD);
        due("37 sort -2", x.tape(0, -2, 0), BAD);
        due("37 61", x.tape(0, 0, 61), BAD);
        due("37 MAX", x.tape(0, 0, MAX), BAD);
        due("37 -1 items", x.tape(0, 0, -1), SIZE);
        due("37 MIN items", x.tape(0, 0, MIN), SIZE);
        due("37 sixty", x.tape(5, 3, 60), 1);
        due("37 the last", x.item(5, 59, 7), 1);
        due("37 the first", x.item(5, 0, 7), 1);
        due("37 anew", x.tape(5, 3, 60), 1);
        due("37 0 again", x.peek(5, 0), 0);
        due("37 all 0", x.peek(5, 59), 0);
        due("37 none of them", x.tape(5, 4, 0), 1);
        due("37 no place", x.item(5, 0, 1), PLACE);
        due("37 nothing, whatever n is", x.tape(5, -1, 99), 1);
        due("37 nothing, n below 0", x.tape(5, -1, -9), 1);
        due("37 holds nothing", x.item(5, 0, 1), NOTHING);
        due("37 refused changes nothing", x.tape(5, 0, 61), BAD);
        due("37 still nothing", x.item(5, 0, 1), NOTHING);
    }

    private static void p38Item() {
        PaintFrames x = new PaintFrames();
        long[] given = {200L, 40000L, 3000000000L, Long.MAX_VALUE, 256L};
        long[] kept = {-56L, -25536L, -1294967296L, Long.MAX_VALUE, 1L};
        for (int sort = 0; sort < 5; sort++) {
            x.tape(sort, sort, 2);
            due("38 item of sort " + sort, x.item(sort, 1, given[sort]), 1);
            due("38 kept", x.peek(sort, 1), kept[sort]);
            due("38 Long.MIN_VALUE", x.item(sort, 0, Long.MIN_VALUE), 1);
            due("38 its lowest bits", x.peek(sort, 0), sort == 3 ? Long.MIN_VALUE : sort == 4 ? 1 : 0);
            due("38 -1", x.item(sort, 0, -1), 1);
            due("38 -1 kept", x.peek(sort, 0), sort == 4 ? 1 : -1);
        }
        due("38 a boolean 0", x.item(4, 1, 0), 1);
        due("38 is 0", x.peek(4, 1), 0);
        due("38 tape 6", x.item(6, 0, 0), NONE);
        due("38 tape -1", x.item(-1, 0, 0), NONE);
        due("38 nothing", x.item(5, 99, 0), NOTHING);
        due("38 place 2", x.item(0, 2, 0), PLACE);
        due("38 place -1", x.item(0, -1, 0), PLACE);
        due("38 place MAX", x.item(0, MAX, 0), PLACE);
    }

    private static void p39Peek() {
        PaintFrames x = new PaintFrames();
        x.tape(0, 3, 2);
        x.item(0, 1, 5);
        due("39 item", x.peek(0, 1), 5);
        due("39 0", x.peek(0, 0), 0);
        due("39 place 2", x.peek(0, 2), NO);
        due("39 place -1", x.peek(0, -1), NO);
        due("39 place MAX", x.peek(0, MAX), NO);
        due("39 nothing", x.peek(1, 0), NO);
        due("39 tape 6", x.peek(6, 0), NO);
        due("39 tape -1", x.peek(-1, 0), NO);
    }

    private static void p40Shift() {
        PaintFrames x = new PaintFrames();
        x.tape(0, 2, 5);
        x.tape(1, 2, 3);
        x.tape(2, 3, 3);
        for (int i = 0; i < 5; i++) {
            x.item(0, i, i + 1);
        }
        due("40 to another", x.shift(0, 1, 1, 0, 3), 3);
        due("40 came", x.peek(1, 2), 4);
        due("40 up the same one", x.shift(0, 0, 0, 1, 4), 4);
        int[] up = {1, 1, 2, 3, 4};
        for (int i = 0; i < 5; i++) {
            due("40 up " + i, x.peek(0, i), up[i]);
        }
        due("40 down the same one", x.shift(0, 2, 0, 0, 3), 3);
        int[] down = {2, 3, 4, 3, 4};
        for (int i = 0; i < 5; i++) {
            due("40 down " + i, x.peek(0, i), down[i]);
        }
        due("40 none of them at the ends", x.shift(0, 5, 1, 3, 0), 0);
        due("40 tape 6", x.shift(6, 0, 3, 0, 0), NONE);
        due("40 other -1", x.shift(3, 0, -1, 0, 0), NONE);
        due("40 nothing", x.shift(3, 0, 2, 0, 0), NOTHING);
        due("40 other nothing", x.shift(0, -1, 3, 0, 0), NOTHING);
        due("40 unlike", x.shift(0, -1, 2, 0, 0), CAST);
        due("40 n", x.shift(0, 0, 1, 0, -1), PLACE);
        due("40 i", x.shift(0, -1, 1, 0, 1), PLACE);
        due("40 j", x.shift(0, 0, 1, -1, 1), PLACE);
        due("40 beyond its end", x.shift(0, 3, 1, 0, 3), PLACE);
        due("40 beyond the other's end", x.shift(0, 0, 1, 1, 3), PLACE);
        due("40 i 6", x.shift(0, 6, 1, 0, 0), PLACE);
        due("40 MAX n", x.shift(0, 1, 1, 1, MAX), PLACE);
        due("40 MAX i", x.shift(0, MAX, 1, 0, 1), PLACE);
        due("40 MAX j", x.shift(0, 0, 1, MAX, 1), PLACE);
        due("40 MIN n", x.shift(0, 0, 1, 0, MIN), PLACE);
        due("40 as it was", x.peek(1, 0), 2);
    }

    public static void main(String[] args) {
        p1NewObject();
        p2Places();
        p3Kinds();
        p4Weight();
        p5Generator();
        p6Drop();
        p7Of();
        p8Lay();
        p9Rack();
        p10Move();
        p11Told();
        p12Index();
        p13Part();
        p14Many();
        p15Least();
        p16Size();
        p17KindOf();
        p18Heavy();
        p19Use();
        p20Same();
        p21Handed();
        p22Even();
        p23Likely();
        p24Mean();
        p25Spread();
        p26Feed();
        p27Read();
        p28Cause();
        p29See();
        p30Fits();
        p31Event();
        p32After();
        p33Judge();
        p34Image();
        p35Undo();
        p36Count();
        p37Tape();
        p38Item();
        p39Peek();
        p40Shift();
        check.end();
    }
}
