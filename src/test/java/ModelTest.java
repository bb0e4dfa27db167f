import java.util.ArrayList;
import java.util.List;
import java.util.Random;

/** Random runs of calls (the same ones every time), each answered by the program and by the plain model. */
public final class ModelTest {
    private static final int RUNS = 1500;
    private static final int CALLS = 500;
    private static final int[] WILD = {
        Integer.MIN_VALUE, Integer.MIN_VALUE + 1, -1000000000, -16, -2, -1, 0, 1, 2, 3, 4, 5, 6, 7, 9, 10, 11, 12, 13,
        59, 60, 61, 99, 100, 127, 128, 9999, 10000, 999999, 1000000, 1000000000, Integer.MAX_VALUE - 1, Integer.MAX_VALUE};
    private static final long[] WILD_LONGS = {
        Long.MIN_VALUE, Long.MAX_VALUE, -1L, 0L, 127L, 128L, 255L, 256L, 32767L, 32768L, 65536L,
        2147483647L, 2147483648L, 4294967296L, -129L, -32769L, -2147483649L};
    /** Rows whose moves are few, so that more than one of them goes together. */
    private static final String[][] GOOD_ROWS = {
        {}, {}, {"21", "12"}, {"231", "132", "321", "213", "123"},
        {"2341", "1432", "2143", "3412", "4321", "2314", "1342", "2134", "1234"},
        {"23451", "15432", "54321", "21345", "13452", "24135", "12345", "21453"},
        {"234561", "654321", "165432", "216543", "231564", "456123", "214365", "123456", "234516", "213456", "532461"}};

    private final Random random;
    private final Check check;
    private final int run;
    private final PaintFrames x = new PaintFrames();
    private final Model m = new Model();
    private final List<String> calls = new ArrayList<>();

    private ModelTest(int run, Check check) {
        this.run = run;
        this.check = check;
        this.random = new Random(7919L * run + 13);
    }

    private void due(String call, long got, long want) {
        calls.add(call + " -> " + got);
        check.due("run " + run + ", call " + calls.size() + ": " + call, got, want);
    }

    private int below(int n) {
        return random.nextInt(n);
    }

    private int wild() {
        return WILD[below(WILD.length)];
    }

    /** A number from low to high, now and then one just beyond, or any other. */
    private int from(int low, int high) {
        int dice = below(24);
        return dice == 0 ? wild() : dice == 1 ? low - 1 : dice == 2 ? high + 1 : low + below(high - low + 1);
    }

    private int flag() {
        return from(0, 1);
    }

    private int painting() {
        if (below(20) == 0) {
            return wild();
        }
        int kinds = below(25) == 0 ? m.s.k + 1 : m.s.k;
        int places = below(40) == 0 ? m.s.n + 1 : m.s.n;
        int made = 0;
        for (int p = 0; p < places; p++) {
            made = made * 10 + below(kinds);
        }
        return made;
    }

    /** A painting of the same class often enough for rows of SEEN to be so. */
    private int alike(int painting) {
        String t = m.painting(painting);
        if (t == null || below(3) == 0) {
            return painting();
        }
        List<Model.Gen> all = m.moves();
        return Integer.parseInt(Model.paint(t, all.get(below(all.size())).row()));
    }

    private String rowText(int n) {
        int dice = below(10);
        if (dice < 6) {
            return GOOD_ROWS[n][below(GOOD_ROWS[n].length)];
        }
        StringBuilder left = new StringBuilder(Model.identity(n));
        StringBuilder row = new StringBuilder();
        while (left.length() > 0) {
            int at = below(left.length());
            row.append(left.charAt(at));
            left.deleteCharAt(at);
        }
        if (dice == 9) {
            row.setCharAt(below(n), (char) ('0' + below(10)));
        }
        return row.toString();
    }

    private String clause() {
        switch (below(8)) {
            case 0: return below(3) == 0 ? "n" + below(10) : "k" + (1 + below(4));
            case 1: return "k" + below(10);
            case 2: case 3: return "w" + below(6) + below(10);
            case 4: return (below(2) == 0 ? "t" : "m") + below(10000000);
            case 5: return (below(2) == 0 ? "t0" : "m0") + rowText(m.s.n);
            default: return (below(2) == 0 ? "t" : "m") + rowText(m.s.n);
        }
    }

    private String text() {
        StringBuilder b = new StringBuilder();
        int clauses = below(8) == 0 ? 11 + below(3) : 1 + below(4);
        for (int c = 0; c < clauses; c++) {
            b.append(c == 0 ? "" : ";").append(clauses > 10 ? "k2" : clause());
        }
        if (below(3) == 0) {
            String signs = ";nkwtm0123456789x ";
            char sign = signs.charAt(below(signs.length()));
            switch (below(3)) {
                case 0: b.setCharAt(below(b.length()), sign); break;
                case 1: b.insert(below(b.length() + 1), sign); break;
                default: b.setLength(below(b.length() + 1)); break;
            }
        }
        return b.toString();
    }

    private void feedAndRead() {
        for (char c : text().toCharArray()) {
            due("feed(" + (int) c + ")", x.feed(c), m.feed(c));
        }
        due("count(2)", x.count(2), m.count(2));
        due("read()", x.read(), m.read());
        for (int i = 0; i < 4; i++) {
            due("cause(" + i + ", 0)", x.cause(i, 0), m.cause(i, 0));
            due("cause(" + i + ", 1)", x.cause(i, 1), m.cause(i, 1));
        }
    }

    private void tellLeastsByTape() {
        int by = below(2);
        int tape = below(6);
        int from = below(3);
        due("tape(" + tape + ", 2, 60)", x.tape(tape, 2, 60), m.tape(tape, 2, 60));
        int i = from;
        int wrongAt = below(3) == 0 ? below(60) : -1;
        for (String p : m.leasts(by)) {
            if (i >= 60) {
                break;
            }
            int v = Integer.parseInt(p) + (i == wrongAt ? 1 : 0);
            due("item(" + tape + ", " + i + ", " + v + ")", x.item(tape, i, v), m.item(tape, i, v));
            i++;
        }
        due("judge(" + by + ", " + tape + ", " + from + ")", x.judge(by, tape, from), m.judge(by, tape, from));
        due("judge(1, " + tape + ", 0)", x.judge(1, tape, 0), m.judge(1, tape, 0));
    }

    private void setUpCall() {
        switch (below(9)) {
            case 0: { int v = from(2, 6); if (below(3) == 0) { due("places(" + v + ")", x.places(v), m.places(v)); } break; }
            case 1: { int v = from(1, 4); due("kinds(" + v + ")", x.kinds(v), m.kinds(v)); break; }
            case 2: { int a = from(0, 3), v = from(0, 9); due("weight(" + a + ", " + v + ")", x.weight(a, v), m.weight(a, v)); break; }
            case 3: case 4: case 5: {
                int row = below(20) == 0 ? wild() : Integer.parseInt(rowText(m.s.n)), hand = flag();
                due("generator(" + row + ", " + hand + ")", x.generator(row, hand), m.generator(row, hand));
                break;
            }
            case 6: if (below(2) == 0) { due("drop()", x.drop(), m.drop()); } break;
            case 7: { int a = from(0, 3), w = from(0, 2); due("of(" + a + ", " + w + ")", x.of(a, w), m.of(a, w)); break; }
            default: {
                int r = from(0, 2), p = from(0, 2), g = from(-1, 3);
                due("lay(" + r + ", " + p + ", " + g + ")", x.lay(r, p, g), m.lay(r, p, g));
                int what = below(2) == 0 ? from(0, 1) : from(10, 12);
                due("rack(" + r + ", " + what + ")", x.rack(r, what), m.rack(r, what));
            }
        }
    }

    private void moveCall() {
        switch (below(5)) {
            case 0: { int i = from(0, m.moves().size() - 1), w = from(0, 2); due("move(" + i + ", " + w + ")", x.move(i, w), m.move(i, w)); break; }
            case 1: { int w = from(0, 8); due("told(" + w + ")", x.told(w), m.told(w)); break; }
            case 2: { int b = flag(), k = from(-1, 5), w = flag(); due("index(" + b + ", " + k + ", " + w + ")", x.index(b, k, w), m.index(b, k, w)); break; }
            case 3: { int b = flag(), k = from(0, 5), p = flag(); due("part(" + b + ", " + k + ", " + p + ")", x.part(b, k, p), m.part(b, k, p)); break; }
            default: { int b = flag(), v = from(0, 9); due("many(" + b + ", " + v + ")", x.many(b, v), m.many(b, v)); }
        }
    }

    private void classCall() {
        int by = flag();
        int p = painting();
        switch (below(7)) {
            case 0: due("least(" + by + ", " + p + ")", x.least(by, p), m.least(by, p)); break;
            case 1: due("size(" + by + ", " + p + ")", x.size(by, p), m.size(by, p)); break;
            case 2: {
                int i = from(0, m.leasts(1).size() - 1), w = from(0, 3);
                due("kindOf(" + by + ", " + i + ", " + w + ")", x.kindOf(by, i, w), m.kindOf(by, i, w));
                break;
            }
            case 3: { int w = from(0, 20); due("heavy(" + by + ", " + w + ")", x.heavy(by, w), m.heavy(by, w)); break; }
            case 4: {
                String t = m.painting(p);
                int u = t == null ? wild() : Model.useOf(t);
                due("use(" + by + ", " + u + ")", x.use(by, u), m.use(by, u));
                break;
            }
            case 5: { int q = alike(p); due("same(" + by + ", " + p + ", " + q + ")", x.same(by, p, q), m.same(by, p, q)); break; }
            default: { int w = flag(); due("handed(" + p + ", " + w + ")", x.handed(p, w), m.handed(p, w)); }
        }
    }

    private void floatCall() {
        int by = flag();
        int p = painting();
        int w = flag();
        switch (below(4)) {
            case 0: due("even(" + by + ")", x.even(by), m.even(by)); break;
            case 1: due("likely(" + by + ", " + p + ")", x.likely(by, p), m.likely(by, p)); break;
            case 2: due("mean(" + p + ", " + w + ")", x.mean(p, w), m.mean(p, w)); break;
            default: due("spread(" + p + ", " + w + ")", x.spread(p, w), m.spread(p, w));
        }
    }

    private void seenCall() {
        switch (below(7)) {
            case 0: case 1: {
                int a = below(12) == 0 ? -1 : painting(), b = alike(a);
                boolean is = below(3) > 0;
                due("see(" + a + ", " + b + ", " + is + ")", x.see(a, b, is), m.see(a, b, is));
                break;
            }
            case 2: case 3: { int w = flag(); due("fits(" + w + ")", x.fits(w), m.fits(w)); break; }
            case 4: case 5: {
                int w = below(12) == 0 ? -1 : from(0, 2), n = w == 0 ? from(1, 4) : from(0, 3);
                due("event(" + w + ", " + n + ")", x.event(w, n), m.event(w, n));
                break;
            }
            default: due("after()", x.after(), m.after());
        }
    }

    private void tapeCall() {
        int t = from(0, 5);
        switch (below(6)) {
            case 0: {
                int s = from(-1, 4), n = from(0, 60);
                due("tape(" + t + ", " + s + ", " + n + ")", x.tape(t, s, n), m.tape(t, s, n));
                break;
            }
            case 1: case 2: {
                int i = from(0, 30);
                long v = below(2) == 0 ? random.nextLong() : WILD_LONGS[below(WILD_LONGS.length)];
                due("item(" + t + ", " + i + ", " + v + ")", x.item(t, i, v), m.item(t, i, v));
                due("peek(" + t + ", " + i + ")", x.peek(t, i), m.peek(t, i));
                break;
            }
            case 3: { int i = from(0, 59); due("peek(" + t + ", " + i + ")", x.peek(t, i), m.peek(t, i)); break; }
            case 4: {
                int i = from(0, 20), o = below(2) == 0 ? t : from(0, 5), j = from(0, 20), n = from(0, 30);
                due("shift(" + t + ", " + i + ", " + o + ", " + j + ", " + n + ")", x.shift(t, i, o, j, n), m.shift(t, i, o, j, n));
                break;
            }
            default: {
                int b = flag(), i = from(0, 3);
                due("judge(" + b + ", " + t + ", " + i + ")", x.judge(b, t, i), m.judge(b, t, i));
            }
        }
    }

    private void otherCall() {
        switch (below(12)) {
            case 0: due("image()", x.image(), m.image()); break;
            case 1: due("undo()", x.undo(), m.undo()); break;
            case 2: tellLeastsByTape(); break;
            case 3: case 4: case 5: feedAndRead(); break;
            case 6: { int c = from(0, 127); due("feed(" + c + ")", x.feed(c), m.feed(c)); break; }
            case 7: due("read()", x.read(), m.read()); break;
            case 8: { int w = from(0, 2); due("count(" + w + ")", x.count(w), m.count(w)); break; }
            default: { int i = from(0, 3), w = flag(); due("cause(" + i + ", " + w + ")", x.cause(i, w), m.cause(i, w)); }
        }
    }

    private void go() {
        // a longer text than most calls feed, now and then
        if (run % 50 == 0) {
            for (int i = 0; i < 102; i++) {
                int sign = i % 3 == 0 ? 'k' : i % 3 == 1 ? '3' : ';';
                due("feed(" + sign + ")", x.feed(sign), m.feed(sign));
            }
        }
        while (calls.size() < CALLS - 80 && check.wrong() == 0) {
            switch (below(8)) {
                case 0: case 1: setUpCall(); break;
                case 2: moveCall(); break;
                case 3: classCall(); break;
                case 4: floatCall(); break;
                case 5: seenCall(); break;
                case 6: tapeCall(); break;
                default: otherCall();
            }
        }
        if (check.wrong() > 0) {
            calls.forEach(c -> System.out.println("  " + c));
        }
    }

    public static void main(String[] args) {
        Check check = new Check("ModelTest");
        for (int run = 0; run < RUNS && check.wrong() == 0; run++) {
            new ModelTest(run, check).go();
        }
        check.end();
    }
}
