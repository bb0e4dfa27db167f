import java.util.ArrayList;
import java.util.List;

/** What the tests of boundaries begin with, and all that the face shows of an object. */
final class Given {
    private Given() { }

    /** A square of three kinds in which each part of the object holds something of its own. */
    static PaintFrames rich() {
        PaintFrames x = square();
        x.kinds(3);
        x.lay(0, 0, 0);
        x.lay(0, 2, 1);
        x.lay(1, 1, 0);
        x.lay(2, 0, 1);
        x.see(12, 120, true);
        x.see(12, 102, false);
        x.event(0, 4);
        x.event(1, 1);
        x.image();
        x.weight(1, 8);
        x.lay(0, 1, 1);
        x.see(1, 10, true);
        x.event(0, 2);
        read(x, "k3;x");
        feed(x, "k2");
        for (int tape = 0; tape < 5; tape++) {
            x.tape(tape, tape, 2 + tape % 2);
            x.item(tape, 0, 1);
            x.item(tape, 1, tape * 11);
        }
        return x;
    }

    /** The square: its turns come of 2341, its mirrors of 1432 with that. */
    static PaintFrames square() {
        PaintFrames x = new PaintFrames();
        x.generator(2341, 0);
        x.generator(1432, 1);
        return x;
    }

    /** Five places with all their 120 rows, all of them turns, by two generators. */
    static void fillMoves(PaintFrames x) {
        x.places(5);
        x.generator(23451, 0);
        x.generator(21345, 0);
    }

    static void fillGenerators(PaintFrames x) {
        for (int g = x.told(2); g < 4; g++) {
            x.generator(2341, 0);
        }
    }

    static void fillSeen(PaintFrames x) {
        for (int row = x.count(0); row < 5; row++) {
            x.see(1, 10, true);
        }
    }

    static void fillEvents(PaintFrames x) {
        for (int row = x.count(1); row < 8; row++) {
            x.event(0, 4);
        }
    }

    static void fillText(PaintFrames x) {
        for (int sign = x.count(2); sign < 100; sign++) {
            x.feed('k');
        }
    }

    static void dropAll(PaintFrames x) {
        while (x.told(2) > 0) {
            x.drop();
        }
    }

    static void feed(PaintFrames x, String text) {
        for (int i = 0; i < text.length(); i++) {
            x.feed(text.charAt(i));
        }
    }

    static int read(PaintFrames x, String text) {
        feed(x, text);
        return x.read();
    }

    /** What the object shows of itself; it is used up by that: read, undone, its tapes written on. */
    static List<String> shownBy(PaintFrames x) {
        List<String> lines = new ArrayList<>();
        showFrame(x, "", lines);
        showTrouble(x, lines);
        showTapes(x, lines);
        lines.add("count(2) " + x.count(2));
        lines.add("read() " + x.read());
        showTrouble(x, lines);
        lines.add("told(1) behind read() " + x.told(1));
        lines.add("undo() " + x.undo());
        showFrame(x, "behind undo(): ", lines);
        return lines;
    }

    private static void showFrame(PaintFrames x, String when, List<String> lines) {
        for (int what = 0; what < 9; what++) {
            lines.add(when + "told(" + what + ") " + x.told(what));
        }
        for (int g = 0; g < 4; g++) {
            lines.add(when + "of(" + g + ", ..) " + x.of(g, 0) + " " + x.of(g, 1));
        }
        for (int r = 0; r < 3; r++) {
            lines.add(when + "rack(" + r + ", ..) " + x.rack(r, 0) + " " + x.rack(r, 1) + ": "
                    + x.rack(r, 10) + " " + x.rack(r, 11) + " " + x.rack(r, 12));
        }
        for (int kind = 0; kind < 4; kind++) {
            int weight = x.weight(kind, 0);
            x.weight(kind, weight);
            lines.add(when + "weight of " + kind + " " + weight);
        }
        int lastClass = x.told(7) - 1;
        lines.add(when + "last class " + x.kindOf(1, lastClass, 0) + " " + x.kindOf(1, lastClass, 2));
        lines.add(when + "seen " + x.count(0) + ", fits " + x.fits(0) + " " + x.fits(1));
        lines.add(when + "events " + x.count(1) + ", after " + x.after());
    }

    private static void showTrouble(PaintFrames x, List<String> lines) {
        for (int i = 0; i < 4; i++) {
            lines.add("cause(" + i + ", ..) " + x.cause(i, 0) + " " + x.cause(i, 1));
        }
    }

    private static void showTapes(PaintFrames x, List<String> lines) {
        for (int tape = 0; tape < 6; tape++) {
            StringBuilder items = new StringBuilder();
            for (int i = 0; i < 4; i++) {
                items.append(' ').append(x.peek(tape, i));
            }
            // what an item keeps of this number tells the tape's sort
            int wrote = x.item(tape, 0, 0x7ABCDEF99ABC9AL);
            lines.add("tape " + tape + items + ", " + wrote + " " + x.peek(tape, 0));
        }
    }
}
