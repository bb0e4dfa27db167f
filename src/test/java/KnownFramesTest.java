/**
 * Frames whose numbers stand in books: the tetrahedron, the bipyramid of three sides, the hexagon, the octahedron.
 * They have two to six places, so a digit that is left out or one too many is found, too.
 */
public final class KnownFramesTest extends Bounds {
    /** Four corners: twelve turns, and as many mirrors. */
    private static PaintFrames tetrahedron() {
        PaintFrames x = new PaintFrames();
        due("three round", x.generator(2314, 0), 0);
        due("two by two", x.generator(2143, 0), 1);
        due("a mirror", x.generator(2134, 1), 2);
        return x;
    }

    /** Places 1 and 2 above and below, 3 to 5 around. */
    private static PaintFrames bipyramid() {
        PaintFrames x = new PaintFrames();
        due("five places", x.places(5), 4);
        due("three round", x.generator(12453, 0), 0);
        due("head over", x.generator(21354, 0), 1);
        due("the level mirror", x.generator(21345, 1), 2);
        return x;
    }

    private static PaintFrames hexagon() {
        PaintFrames x = new PaintFrames();
        due("six places", x.places(6), 4);
        due("six round", x.generator(234561, 0), 0);
        due("a mirror", x.generator(654321, 1), 1);
        return x;
    }

    /** Places 1 and 2 are across from each other, 3 and 4, 5 and 6. */
    private static PaintFrames octahedron() {
        PaintFrames x = new PaintFrames();
        due("six places", x.places(6), 4);
        due("four round", x.generator(431256, 0), 0);
        due("four round another way", x.generator(126534, 0), 1);
        due("a level mirror", x.generator(123465, 1), 2);
        return x;
    }

    private static void dueTold(PaintFrames x, int... toldFromMovesOn) {
        for (int i = 0; i < toldFromMovesOn.length; i++) {
            due("told(" + (3 + i) + ")", x.told(3 + i), toldFromMovesOn[i]);
        }
    }

    private static void dueIndex(PaintFrames x, int by, int... typesAndHowMany) {
        due("types by " + by, x.index(by, -1, 0), typesAndHowMany.length / 2);
        for (int k = 0; 2 * k < typesAndHowMany.length; k++) {
            due("type " + k + " by " + by, x.index(by, k, 0), typesAndHowMany[2 * k]);
            due("how many have it", x.index(by, k, 1), typesAndHowMany[2 * k + 1]);
        }
    }

    private static void dueMany(PaintFrames x, int by, long... forZeroOn) {
        for (int v = 0; v < forZeroOn.length; v++) {
            due("many(" + by + ", " + v + ")", x.many(by, v), forZeroOn[v]);
        }
    }

    // ---- how many moves, types, classes, pairs

    /** One carbon with four unlike neighbours is the first pair of hands. */
    static void tetrahedronsNumbers() {
        PaintFrames x = tetrahedron();
        dueTold(x, 24, 12, 16, 5, 5, 0);
        dueIndex(x, 0, 20000, 3, 101000, 8, 400000, 1);
        dueIndex(x, 1, 100, 6, 20000, 3, 101000, 8, 210000, 6, 400000, 1);
        dueMany(x, 0, 0, 1, 5, 15, 36, 75);
        dueMany(x, 1, 0, 1, 5, 15, 35, 70);
        x.kinds(4);
        dueTold(x, 24, 12, 256, 36, 35, 1);
        due("handed", x.handed(3210, 0), 1);
        due("the least of this hand", x.least(0, 3210), 123);
        due("the other hand", x.handed(3210, 1), 132);
        due("with two alike not handed", x.handed(3211, 0), 0);
    }

    static void bipyramidsNumbers() {
        PaintFrames x = bipyramid();
        dueTold(x, 12, 6, 32, 12, 12, 0);
        dueIndex(x, 0, 120000, 3, 201000, 2, 500000, 1);
        dueIndex(x, 1, 11000, 2, 120000, 3, 201000, 2, 310000, 4, 500000, 1);
        dueMany(x, 0, 0, 1, 12, 63, 224);
        dueMany(x, 1, 0, 1, 12, 60, 200);
        x.kinds(4);
        dueTold(x, 12, 6, 1024, 224, 200, 24);
    }

    static void hexagonsNumbers() {
        PaintFrames x = hexagon();
        dueTold(x, 12, 6, 64, 14, 13, 1);
        dueIndex(x, 0, 1, 2, 2000, 2, 30000, 1, 600000, 1);
        dueIndex(x, 1, 1, 2, 2000, 2, 30000, 4, 220000, 3, 600000, 1);
        dueMany(x, 0, 0, 1, 14, 130, 700, 2635);
        dueMany(x, 1, 0, 1, 13, 92, 430, 1505);
        x.kinds(3);
        dueTold(x, 12, 6, 729, 130, 92, 38);
    }

    static void octahedronsNumbers() {
        PaintFrames x = octahedron();
        dueTold(x, 48, 24, 64, 10, 10, 0);
        dueIndex(x, 0, 2000, 8, 30000, 6, 200100, 6, 220000, 3, 600000, 1);
        dueIndex(x, 1, 1, 8, 2000, 8, 10100, 6, 30000, 7, 200100, 6, 220000, 9, 410000, 3, 600000, 1);
        dueMany(x, 0, 0, 1, 10, 57, 240, 800);
        dueMany(x, 1, 0, 1, 10, 56, 220, 680);
        x.kinds(4);
        dueTold(x, 48, 24, 4096, 240, 220, 20);
    }

    // ---- by how often each kind is used: isomers as they are counted by hand

    static void hexagonsIsomersByUse() {
        PaintFrames x = hexagon();
        int[] ofTwoKinds = {1, 1, 3, 3, 3, 1, 1};
        for (int often = 0; often <= 6; often++) {
            due(often + " of kind 1", x.use(1, (6 - often) * 1000 + often * 100), ofTwoKinds[often]);
        }
        due("three of each by 0", x.use(0, 3300), 4);
        x.kinds(3);
        due("two of each by 1", x.use(1, 2220), 11);
        due("two of each by 0", x.use(0, 2220), 16);
        due("four, one and one", x.use(1, 4110), 3);
    }

    /** Two of each of three kinds: five ways, of which that with no two alike across is a pair of hands. */
    static void octahedronsIsomersByUse() {
        PaintFrames x = octahedron();
        x.kinds(3);
        due("two of each by 0", x.use(0, 2220), 6);
        due("two of each by 1", x.use(1, 2220), 5);
        due("four and two", x.use(1, 4200), 2);
        due("three and three", x.use(1, 3300), 2);
        due("the pair", x.handed(10212, 0), 1);
        due("its other hand", x.handed(10212, 1), x.least(0, 10221));
        due("unlike it by turns", x.same(0, 10212, 10221), 0);
        due("like it by all", x.same(1, 10212, 10221), 1);
        due("two alike across", x.handed(1212, 0), 0);
    }

    static void bipyramidsIsomersByUse() {
        PaintFrames x = bipyramid();
        due("one of kind 1", x.use(1, 4100), 2);
        due("two of kind 1", x.use(1, 3200), 3);
        x.kinds(3);
        due("three, one and one", x.use(1, 3110), 4);
        due("two, two and one by 1", x.use(1, 2210), 5);
        due("two, two and one by 0", x.use(0, 2210), 6);
    }

    // ---- each class shown by its least, in frames of two, five and six places

    static void classesOfTwoPlaces() {
        PaintFrames x = new PaintFrames();
        x.places(2);
        x.kinds(4);
        x.generator(21, 1);
        int[] leasts = {0, 1, 2, 3, 11, 12, 13, 22, 23, 33};
        for (int i = 0; i < leasts.length; i++) {
            int turned = leasts[i] % 10 * 10 + leasts[i] / 10;
            due("class " + i, x.kindOf(1, i, 0), leasts[i]);
            due("least(1, " + turned + ")", x.least(1, turned), leasts[i]);
            due("least(0, " + turned + ")", x.least(0, turned), turned);
            due("size of class " + i, x.kindOf(1, i, 1), leasts[i] == turned ? 1 : 2);
            due("other hand of " + leasts[i], x.handed(leasts[i], 1), turned);
            due("handed " + leasts[i], x.handed(leasts[i], 0), leasts[i] == turned ? 0 : 1);
        }
        due("no more", x.kindOf(1, leasts.length, 0), NONE);
    }

    static void classesOfSixPlaces() {
        PaintFrames x = hexagon();
        x.weight(0, 2);
        x.weight(1, 9);
        int[] leasts = {0, 1, 11, 101, 111, 1001, 1011, 1111, 10101, 10111, 11011, 11111, 111111};
        int[] often = {0, 1, 2, 2, 3, 2, 3, 4, 3, 4, 4, 5, 6};
        for (int i = 0; i < leasts.length; i++) {
            due("least " + i, x.kindOf(1, i, 0), leasts[i]);
            due("heavy " + i, x.kindOf(1, i, 2), 12 + 7 * often[i]);
            due("use " + i, x.kindOf(1, i, 3), 6000 - 900 * often[i]);
        }
        due("no more", x.kindOf(1, leasts.length, 0), NONE);
        due("the hand that mirrors take away", x.kindOf(0, 7, 0), 1101);
        due("as heavy as three of kind 1 by 0", x.heavy(0, 33), 4);
        due("and by 1", x.heavy(1, 33), 3);
    }

    static void paintingsOfSixPlacesTurnedRound() {
        PaintFrames x = hexagon();
        x.kinds(4);
        int[] round = {1233, 12330, 123300, 233001, 330012, 300123};
        for (int p : round) {
            due("least(0, " + p + ")", x.least(0, p), 1233);
            due("least(1, " + p + ")", x.least(1, p), 1233);
            due("size(0, " + p + ")", x.size(0, p), 6);
            due("size(1, " + p + ")", x.size(1, p), 12);
            due("same(0, 1233, " + p + ")", x.same(0, 1233, p), 1);
            due("mirrored: same(0, " + p + ", 3321)", x.same(0, p, 3321), 0);
            due("mirrored: same(1, " + p + ", 3321)", x.same(1, p, 3321), 1);
            due("handed(" + p + ", 0)", x.handed(p, 0), 1);
            due("handed(" + p + ", 1)", x.handed(p, 1), 3321);
        }
        due("the last place counts", x.same(1, 1233, 1232), 0);
        due("least of 333332", x.least(1, 333332), 233333);
        due("size of 030303", x.size(1, 30303), 2);
        due("least of 303030", x.least(0, 303030), 30303);
        due("not handed", x.handed(30303, 0), 0);
        due("its other hand is itself", x.handed(303030, 1), 30303);
    }

    static void sizesOfFivePlaces() {
        PaintFrames x = bipyramid();
        x.kinds(4);
        due("all alike", x.size(1, 33333), 1);
        due("two above and below", x.size(1, 11000), 1);
        due("one above", x.size(0, 10000), 2);
        due("one around", x.size(0, 1), 3);
        due("all unlike around by 0", x.size(0, 123), 6);
        due("and by 1", x.size(1, 123), 6);
        due("above and below unlike, too, by 0", x.size(0, 10123), 6);
        due("and by 1", x.size(1, 10123), 12);
        due("that is a pair of hands", x.handed(10123, 0), 1);
        due("around alone it is none", x.handed(123, 0), 0);
    }

    // ---- racks in other frames than that of four places

    static void productsOfSixPlaces() {
        PaintFrames x = octahedron();
        x.lay(0, 0, 0);
        x.lay(0, 1, 1);
        due("four round, then another way", x.rack(0, 0), 436512);
        due("a turn", x.rack(0, 1), 0);
        x.lay(0, 2, 2);
        due("then the mirror", x.rack(0, 0), 436521);
        due("a mirror", x.rack(0, 1), 1);
        x.lay(1, 1, 0);
        x.lay(1, 2, 0);
        due("twice four round", x.rack(1, 0), 214356);
    }

    static void productsOfFiveAndTwoPlaces() {
        PaintFrames x = bipyramid();
        for (int p = 0; p < 3; p++) {
            x.lay(1, p, 0);
            due("three round, " + (p + 1) + " times", x.rack(1, 0), new int[] {12453, 12534, 12345}[p]);
        }
        x.lay(2, 0, 2);
        due("the level mirror", x.rack(2, 0), 21345);
        x.places(2);
        x.generator(21, 1);
        x.lay(2, 0, 0);
        due("of two places", x.rack(2, 0), 21);
        x.lay(2, 2, 0);
        due("twice", x.rack(2, 0), 12);
        due("a turn", x.rack(2, 1), 0);
    }

    // ---- seen, events in other frames than that of four places

    /** What is the frame of six alike places? The ring, the prism of two triangles, or the octahedron. */
    static void sixPlacesToldByIsomersSeen() {
        PaintFrames x = new PaintFrames();
        x.places(6);
        x.generator(234561, 0);
        x.generator(231564, 0);
        x.generator(456123, 0);
        x.see(1, 10, true);
        due("one place like the next: by the ring, or the prism", x.fits(0), 6);
        due("least: the ring alone", x.fits(1), 1);
        x.see(100000, 1, true);
        due("the first like the last: the ring, or both of the prism", x.fits(0), 5);
        x.see(11, 101, false);
        due("two side by side are unlike two further apart: the ring", x.fits(0), 2);
        due("alone, as its third turn is the same as the prism's", x.fits(1), 1);
        x.see(110000, 100001, false);
        due("nothing by which two side by side are unlike others such", x.fits(0), 0);
        due("no least", x.fits(1), NIL);
    }

    static void eventsOfSixPlaces() {
        PaintFrames x = hexagon();
        x.event(0, 4);
        due("the hexagon of four kinds", x.after(), 430);
        x.event(1, 1);
        due("without its mirror", x.after(), 700);
        x.event(2, 0);
        due("the turn made a mirror", x.after(), 700);
        x.event(1, 0);
        due("no move at all", x.after(), 4096);
        x.event(0, 1);
        due("of one kind", x.after(), 1);
    }

    public static void main(String[] args) throws Exception {
        runAll(KnownFramesTest.class);
    }
}
