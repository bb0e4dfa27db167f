import java.util.ArrayList;
import java.util.Arrays;
import java.util.List;
import java.util.TreeMap;
import java.util.TreeSet;
import java.util.regex.Pattern;

/** The document's words done again in the slowest and plainest way, with the Java library, to compare with. */
final class Model {
    static final int NONE = -1, BAD = -2, STATE = -3, FULL = -4, OVER = -15;
    static final int NOTHING = -11, CAST = -12, PLACE = -13, SIZE = -14;
    static final long NO = Long.MIN_VALUE;

    /** A row as its digits, 1 .. n, and a hand. */
    record Gen(String row, int hand) { }

    record Seen(String a, String b, boolean is, int places) { }

    record Event(int what, int n) { }

    static final class State {
        int n = 4;
        int k = 2;
        int[] w = {0, 1, 2, 3};
        List<Gen> gens = new ArrayList<>();
        int[][] racks = {{-1, -1, -1}, {-1, -1, -1}, {-1, -1, -1}};
        List<Seen> seen = new ArrayList<>();
        List<Event> events = new ArrayList<>();

        State copy() {
            State s = new State();
            s.n = n;
            s.k = k;
            s.w = w.clone();
            s.gens = new ArrayList<>(gens);
            for (int r = 0; r < 3; r++) {
                s.racks[r] = racks[r].clone();
            }
            s.seen = new ArrayList<>(seen);
            s.events = new ArrayList<>(events);
            return s;
        }
    }

    State s = new State();
    State image;
    StringBuilder text = new StringBuilder();
    List<int[]> trouble = new ArrayList<>();
    int[] sorts = {-1, -1, -1, -1, -1, -1};
    long[][] tapes = new long[6][];

    // ---- moves

    static String identity(int n) {
        return "123456".substring(0, n);
    }

    static String paint(String painting, String row) {
        StringBuilder b = new StringBuilder();
        for (int p = 0; p < row.length(); p++) {
            b.append(painting.charAt(row.charAt(p) - '1'));
        }
        return b.toString();
    }

    /** first, then second: painting letters a, b, .. tells where each place's paint came from. */
    static Gen then(Gen first, Gen second) {
        String start = identity(first.row.length());
        return new Gen(paint(paint(start, first.row), second.row), (first.hand + second.hand) % 2);
    }

    /** Moves in their order, or null if there would be more than 120. */
    static List<Gen> moves(int n, List<Gen> gens) {
        TreeMap<String, Gen> found = new TreeMap<>();
        List<Gen> toDo = new ArrayList<>();
        Gen still = new Gen(identity(n), 0);
        found.put(still.row + still.hand, still);
        toDo.add(still);
        while (!toDo.isEmpty()) {
            Gen g = toDo.remove(toDo.size() - 1);
            for (Gen h : gens) {
                Gen made = then(g, h);
                if (found.put(made.row + made.hand, made) == null) {
                    toDo.add(made);
                    if (found.size() > 120) {
                        return null;
                    }
                }
            }
        }
        return new ArrayList<>(found.values());
    }

    List<Gen> cachedMoves;
    List<Gen> cachedFor;
    int cachedPlaces;

    List<Gen> moves() {
        if (cachedMoves == null || !cachedFor.equals(s.gens) || cachedPlaces != s.n) {
            cachedMoves = moves(s.n, s.gens);
            cachedFor = new ArrayList<>(s.gens);
            cachedPlaces = s.n;
        }
        return cachedMoves;
    }

    static List<Gen> by(int by, List<Gen> all) {
        List<Gen> some = new ArrayList<>();
        for (Gen g : all) {
            if (by == 1 || g.hand == 0) {
                some.add(g);
            }
        }
        return some;
    }

    static List<Integer> cycles(String row) {
        List<Integer> lengths = new ArrayList<>();
        TreeSet<Integer> passed = new TreeSet<>();
        for (int start = 0; start < row.length(); start++) {
            int length = 0;
            for (int p = start; passed.add(p); p = row.charAt(p) - '1') {
                length++;
            }
            if (length > 0) {
                lengths.add(length);
            }
        }
        return lengths;
    }

    static int type(String row) {
        int[] digits = new int[7];
        for (int length : cycles(row)) {
            digits[length]++;
        }
        int t = 0;
        for (int l = 1; l <= 6; l++) {
            t = 10 * t + digits[l];
        }
        return t;
    }

    TreeMap<Integer, Integer> types(int by) {
        TreeMap<Integer, Integer> m = new TreeMap<>();
        for (Gen g : by(by, moves())) {
            m.merge(type(g.row), 1, Integer::sum);
        }
        return m;
    }

    // ---- paintings

    static int paintings(int n, int k) {
        int all = 1;
        for (int i = 0; i < n; i++) {
            all *= k;
        }
        return all;
    }

    /** The digits of a painting's number, or null if it is none. */
    static String painting(long v, int n, int k) {
        if (v < 0) {
            return null;
        }
        String t = Long.toString(v);
        while (t.length() < n) {
            t = "0" + t;
        }
        if (t.length() != n) {
            return null;
        }
        for (char c : t.toCharArray()) {
            if (c - '0' >= k) {
                return null;
            }
        }
        return t;
    }

    String painting(int v) {
        return painting(v, s.n, s.k);
    }

    static TreeSet<String> classOf(String p, List<Gen> moves) {
        TreeSet<String> c = new TreeSet<>();
        for (Gen g : moves) {
            c.add(paint(p, g.row));
        }
        return c;
    }

    TreeSet<String> classOf(int by, String p) {
        return classOf(p, by(by, moves()));
    }

    static TreeSet<String> leasts(int n, int k, List<Gen> moves) {
        TreeSet<String> all = new TreeSet<>();
        TreeSet<String> met = new TreeSet<>();
        StringBuilder b = new StringBuilder();
        for (int i = 0; i < paintings(n, k); i++) {
            b.setLength(0);
            int left = i;
            for (int p = 0; p < n; p++) {
                b.insert(0, left % k);
                left /= k;
            }
            String t = b.toString();
            if (!met.contains(t)) {
                TreeSet<String> c = classOf(t, moves);
                met.addAll(c);
                all.add(c.first());
            }
        }
        return all;
    }

    List<TreeSet<String>> cachedLeasts = new ArrayList<>(Arrays.asList(null, null));
    List<List<Gen>> leastsFor = new ArrayList<>(Arrays.asList(null, null));
    int[] leastsKinds = new int[2];

    TreeSet<String> leasts(int by) {
        List<Gen> all = moves();
        if (leastsFor.get(by) != all || leastsKinds[by] != s.k) {
            cachedLeasts.set(by, leasts(s.n, s.k, by(by, all)));
            leastsFor.set(by, all);
            leastsKinds[by] = s.k;
        }
        return cachedLeasts.get(by);
    }

    int weightOf(String p) {
        int sum = 0;
        for (char c : p.toCharArray()) {
            sum += s.w[c - '0'];
        }
        return sum;
    }

    static int useOf(String p) {
        int[] often = new int[4];
        for (char c : p.toCharArray()) {
            often[c - '0']++;
        }
        return often[0] * 1000 + often[1] * 100 + often[2] * 10 + often[3];
    }

    List<String> mirrored(String p) {
        List<String> made = new ArrayList<>();
        for (Gen g : moves()) {
            if (g.hand == 1) {
                made.add(paint(p, g.row));
            }
        }
        return made;
    }

    boolean isHanded(String p) {
        TreeSet<String> own = classOf(0, p);
        List<String> made = mirrored(p);
        for (String m : made) {
            if (own.contains(m)) {
                return false;
            }
        }
        return !made.isEmpty();
    }

    static boolean flag(int v) {
        return v == 0 || v == 1;
    }

    // ---- the face

    int places(int v) {
        if (v < 2 || v > 6) {
            return BAD;
        }
        int was = s.n;
        s.n = v;
        s.gens.clear();
        for (int[] r : s.racks) {
            Arrays.fill(r, -1);
        }
        return was;
    }

    int kinds(int v) {
        if (v < 1 || v > 4) {
            return BAD;
        }
        int was = s.k;
        s.k = v;
        return was;
    }

    int weight(int kind, int v) {
        if (kind < 0 || kind > 3) {
            return NONE;
        }
        if (v < 0 || v > 9) {
            return BAD;
        }
        int was = s.w[kind];
        s.w[kind] = v;
        return was;
    }

    int generator(int row, int hand) {
        String r = Integer.toString(row);
        char[] sorted = r.toCharArray();
        Arrays.sort(sorted);
        if (!new String(sorted).equals(identity(s.n)) || !flag(hand)) {
            return BAD;
        }
        if (s.gens.size() == 4) {
            return FULL;
        }
        List<Gen> more = new ArrayList<>(s.gens);
        more.add(new Gen(r, hand));
        if (moves(s.n, more) == null) {
            trouble = new ArrayList<>();
            trouble.add(new int[] {5, s.gens.size()});
            trouble.add(new int[] {6, 120});
            return OVER;
        }
        s.gens = more;
        return more.size() - 1;
    }

    int drop() {
        if (s.gens.isEmpty()) {
            return STATE;
        }
        int last = s.gens.size() - 1;
        s.gens.remove(last);
        for (int[] r : s.racks) {
            for (int i = 0; i < 3; i++) {
                if (r[i] == last) {
                    r[i] = -1;
                }
            }
        }
        return last;
    }

    static int tell(Gen g, int what) {
        return what == 0 ? Integer.parseInt(g.row) : what == 1 ? g.hand : what == 2 ? type(g.row) : NONE;
    }

    int of(int g, int what) {
        return g < 0 || g >= s.gens.size() ? NONE : tell(s.gens.get(g), what);
    }

    int lay(int rack, int place, int g) {
        if (rack < 0 || rack > 2 || g < -1 || g >= s.gens.size()) {
            return NONE;
        }
        if (place < 0 || place > 2) {
            return PLACE;
        }
        if (g >= 0 && (rack == 1 && s.gens.get(g).hand == 1 || rack == 2 && s.gens.get(g).hand == 0)) {
            return CAST;
        }
        int was = s.racks[rack][place];
        s.racks[rack][place] = g;
        return was == -1 ? -5 : was;
    }

    int rack(int rack, int what) {
        if (rack < 0 || rack > 2) {
            return NONE;
        }
        if (what >= 10 && what <= 12) {
            int held = s.racks[rack][what - 10];
            return held == -1 ? -5 : held;
        }
        Gen product = new Gen(identity(s.n), 0);
        for (int g : s.racks[rack]) {
            if (g >= 0) {
                product = then(product, s.gens.get(g));
            }
        }
        return flag(what) ? tell(product, what) : NONE;
    }

    int move(int i, int what) {
        return i < 0 || i >= moves().size() ? NONE : tell(moves().get(i), what);
    }

    int told(int what) {
        switch (what) {
            case 0: return s.n;
            case 1: return s.k;
            case 2: return s.gens.size();
            case 3: return moves().size();
            case 4: return by(0, moves()).size();
            case 5: return paintings(s.n, s.k);
            case 6: return leasts(0).size();
            case 7: return leasts(1).size();
            case 8:
                int handed = 0;
                for (String p : leasts(0)) {
                    handed += isHanded(p) ? 1 : 0;
                }
                return handed / 2;
            default: return NONE;
        }
    }

    int index(int by, int k, int what) {
        if (!flag(by)) {
            return NONE;
        }
        TreeMap<Integer, Integer> m = types(by);
        if (k == -1) {
            return m.size();
        }
        if (k < 0 || k >= m.size() || !flag(what)) {
            return NONE;
        }
        int type = new ArrayList<>(m.keySet()).get(k);
        return what == 0 ? type : m.get(type);
    }

    long part(int by, int k, int part) {
        if (!flag(by) || !flag(part) || k < 0 || k >= types(by).size()) {
            return NO;
        }
        int above = new ArrayList<>(types(by).values()).get(k);
        int below = by(by, moves()).size();
        for (int d = below; d > 1; d--) {
            if (above % d == 0 && below % d == 0) {
                above /= d;
                below /= d;
            }
        }
        return part == 0 ? above : below;
    }

    long many(int by, int x) {
        if (!flag(by) || x < 0 || x > 9) {
            return NO;
        }
        long sum = 0;
        for (Gen g : by(by, moves())) {
            long add = 1;
            for (int c = 0; c < cycles(g.row).size(); c++) {
                add *= x;
            }
            sum += add;
        }
        return sum / by(by, moves()).size();
    }

    int least(int by, int p) {
        return !flag(by) ? NONE : painting(p) == null ? BAD : Integer.parseInt(classOf(by, painting(p)).first());
    }

    int size(int by, int p) {
        return !flag(by) ? NONE : painting(p) == null ? BAD : classOf(by, painting(p)).size();
    }

    int kindOf(int by, int i, int what) {
        if (!flag(by) || i < 0 || i >= leasts(by).size() || what < 0 || what > 3) {
            return NONE;
        }
        String p = new ArrayList<>(leasts(by)).get(i);
        return what == 0 ? Integer.parseInt(p) : what == 1 ? classOf(by, p).size() : what == 2 ? weightOf(p) : useOf(p);
    }

    int heavy(int by, int w) {
        if (!flag(by)) {
            return NONE;
        }
        if (w < 0 || w > 99) {
            return BAD;
        }
        int so = 0;
        for (String p : leasts(by)) {
            so += weightOf(p) == w ? 1 : 0;
        }
        return so;
    }

    int use(int by, int use) {
        if (!flag(by)) {
            return NONE;
        }
        if (use < 0 || use > 9999) {
            return BAD;
        }
        int so = 0;
        for (String p : leasts(by)) {
            so += useOf(p) == use ? 1 : 0;
        }
        return so;
    }

    int same(int by, int a, int b) {
        if (!flag(by)) {
            return NONE;
        }
        if (painting(a) == null || painting(b) == null) {
            return BAD;
        }
        return classOf(by, painting(a)).contains(painting(b)) ? 1 : 0;
    }

    int handed(int p, int what) {
        if (!flag(what)) {
            return NONE;
        }
        String t = painting(p);
        if (t == null) {
            return BAD;
        }
        if (what == 0) {
            return isHanded(t) ? 1 : 0;
        }
        List<String> made = mirrored(t);
        return made.isEmpty() ? -5 : Integer.parseInt(classOf(0, made.get(made.size() - 1)).first());
    }

    int even(int by) {
        return !flag(by) ? NONE : Float.floatToIntBits((float) leasts(by).size() / (float) paintings(s.n, s.k));
    }

    long likely(int by, int p) {
        if (!flag(by) || painting(p) == null) {
            return NO;
        }
        return Double.doubleToLongBits((double) classOf(by, painting(p)).size() / (double) paintings(s.n, s.k));
    }

    int mean(int p, int what) {
        if (painting(p) == null) {
            return BAD;
        }
        if (!flag(what)) {
            return NONE;
        }
        float m = (float) weightOf(painting(p)) / (float) s.n;
        return what == 0 ? Float.floatToIntBits(m) : (int) (m + 0.5f);
    }

    long spread(int p, int what) {
        if (painting(p) == null || !flag(what)) {
            return NO;
        }
        double m = (double) weightOf(painting(p)) / (double) s.n;
        double sum = 0.0;
        for (char c : painting(p).toCharArray()) {
            double w = s.w[c - '0'];
            sum += (w - m) * (w - m);
        }
        double d = sum / (double) s.n;
        return what == 0 ? Double.doubleToLongBits(d) : (long) d;
    }

    int feed(int sign) {
        if (sign < 0 || sign > 127) {
            return BAD;
        }
        if (text.length() == 100) {
            return FULL;
        }
        return text.append((char) sign).length();
    }

    // the texts that some set-up begins with, by patterns: another way than the program's walk

    static final String CLAUSE = "(?:[nk][0-9]|w[0-9][0-9]|[tm][0-9]{1,6})";
    static final Pattern WHOLE = Pattern.compile(CLAUSE + "(?:;" + CLAUSE + "){0,11}", Pattern.DOTALL);
    static final Pattern BEGINNING = Pattern.compile(
            "(?:" + CLAUSE + ";){0,11}(?:[nktm]?|w[0-9]?|" + CLAUSE + ")", Pattern.DOTALL);

    static int fault(String t) {
        for (int i = 1; i <= t.length(); i++) {
            if (!BEGINNING.matcher(t.substring(0, i)).matches()) {
                return i - 1;
            }
        }
        return WHOLE.matcher(t).matches() ? -1 : t.length();
    }

    int read() {
        String t = text.toString();
        text.setLength(0);
        int fault = fault(t);
        if (fault >= 0) {
            explain(t, fault);
            return -10 - fault;
        }
        int done = 0;
        for (String c : t.split(";")) {
            int v = Integer.parseInt(c.substring(1));
            int got = switch (c.charAt(0)) {
                case 'n' -> places(v);
                case 'k' -> kinds(v);
                case 'w' -> weight(c.charAt(1) - '0', c.charAt(2) - '0');
                case 't' -> generator(v, 0);
                default -> generator(v, 1);
            };
            done += got >= 0 ? 1 : 0;
        }
        return done;
    }

    void explain(String t, int fault) {
        trouble = new ArrayList<>();
        String ahead = t.substring(0, fault);
        int sign = fault < t.length() ? t.charAt(fault) : -1;
        int whole = (int) ahead.chars().filter(c -> c == ';').count();
        if (WHOLE.matcher(ahead).matches()) {
            trouble.add(new int[] {1, whole + 1});
            trouble.add(new int[] {4, sign});
            return;
        }
        int begins = ahead.lastIndexOf(';') + 1;
        trouble.add(new int[] {1, whole});
        trouble.add(new int[] {2, begins});
        trouble.add(begins == fault ? new int[] {4, sign} : new int[] {3, fault});
    }

    int cause(int i, int what) {
        if (i < 0 || !flag(what)) {
            return NONE;
        }
        return i >= trouble.size() ? -5 : trouble.get(i)[what];
    }

    int see(int a, int b, boolean is) {
        if (a == -1) {
            s.seen.clear();
            return 0;
        }
        if (painting(a) == null || painting(b) == null) {
            return BAD;
        }
        if (s.seen.size() == 5) {
            return FULL;
        }
        s.seen.add(new Seen(painting(a), painting(b), is, s.n));
        return s.seen.size();
    }

    int fits(int what) {
        if (!flag(what)) {
            return NONE;
        }
        TreeSet<Integer> fit = new TreeSet<>();
        for (int set = 0; set < 1 << s.gens.size(); set++) {
            List<Gen> some = new ArrayList<>();
            for (int g = 0; g < s.gens.size(); g++) {
                if ((set >> g) % 2 == 1) {
                    some.add(s.gens.get(g));
                }
            }
            List<Gen> all = moves(s.n, some);
            boolean so = true;
            for (Seen row : s.seen) {
                so &= row.places == s.n && painting(Integer.parseInt(row.a)) != null
                        && painting(Integer.parseInt(row.b)) != null
                        && classOf(row.a, all).contains(row.b) == row.is;
            }
            if (so) {
                fit.add(set);
            }
        }
        return what == 0 ? fit.size() : fit.isEmpty() ? -5 : fit.first();
    }

    int event(int what, int n) {
        if (what == -1) {
            s.events.clear();
            return 0;
        }
        if (what < 0 || what > 2) {
            return NONE;
        }
        if (what == 0 ? n < 1 || n > 4 : n < 0 || n > 3) {
            return BAD;
        }
        if (s.events.size() == 8) {
            return FULL;
        }
        s.events.add(new Event(what, n));
        return s.events.size();
    }

    static List<Gen> left(Gen[] gens) {
        List<Gen> some = new ArrayList<>();
        for (Gen g : gens) {
            if (g != null) {
                some.add(g);
            }
        }
        return some;
    }

    int after() {
        int k = s.k;
        Gen[] gens = s.gens.toArray(new Gen[0]);
        for (Event e : s.events) {
            if (e.what == 0) {
                k = e.n;
            } else if (e.n < gens.length && gens[e.n] != null) {
                Gen was = gens[e.n];
                gens[e.n] = e.what == 1 ? null : new Gen(was.row, 1 - was.hand);
                if (moves(s.n, left(gens)) == null) {
                    gens[e.n] = was;
                }
            }
        }
        return leasts(s.n, k, moves(s.n, left(gens))).size();
    }

    int judge(int by, int tape, int i) {
        if (!flag(by) || tape < 0 || tape > 5) {
            return NONE;
        }
        if (tapes[tape] == null) {
            return 100;
        }
        if (sorts[tape] != 2) {
            return CAST;
        }
        if (i < 0) {
            return 100;
        }
        int looked = 0;
        for (String p : leasts(by)) {
            long at = (long) i + looked;
            if (at >= tapes[tape].length) {
                return 100 + looked;
            }
            if (tapes[tape][(int) at] != Integer.parseInt(p)) {
                return looked;
            }
            looked++;
        }
        return -5;
    }

    int image() {
        image = s.copy();
        return moves().size();
    }

    int undo() {
        if (image == null) {
            return STATE;
        }
        s = image.copy();
        return moves().size();
    }

    int count(int what) {
        return what == 0 ? s.seen.size() : what == 1 ? s.events.size() : what == 2 ? text.length() : BAD;
    }

    int tape(int tape, int sort, int n) {
        if (tape < 0 || tape > 5) {
            return NONE;
        }
        if (sort < -1 || sort > 4 || sort >= 0 && n > 60) {
            return BAD;
        }
        if (sort >= 0 && n < 0) {
            return SIZE;
        }
        sorts[tape] = sort;
        tapes[tape] = sort == -1 ? null : new long[n];
        return 1;
    }

    int item(int tape, int i, long v) {
        if (tape < 0 || tape > 5) {
            return NONE;
        }
        if (tapes[tape] == null) {
            return NOTHING;
        }
        if (i < 0 || i >= tapes[tape].length) {
            return PLACE;
        }
        tapes[tape][i] = switch (sorts[tape]) {
            case 0 -> (long) (byte) v;
            case 1 -> (long) (short) v;
            case 2 -> (long) (int) v;
            case 3 -> v;
            default -> v != 0 ? 1 : 0;
        };
        return 1;
    }

    long peek(int tape, int i) {
        boolean there = tape >= 0 && tape < 6 && tapes[tape] != null && i >= 0 && i < tapes[tape].length;
        return there ? tapes[tape][i] : NO;
    }

    int shift(int tape, int i, int other, int j, int n) {
        if (tape < 0 || tape > 5 || other < 0 || other > 5) {
            return NONE;
        }
        if (tapes[tape] == null || tapes[other] == null) {
            return NOTHING;
        }
        if (sorts[tape] != sorts[other]) {
            return CAST;
        }
        if (n < 0 || i < 0 || j < 0 || (long) i + n > tapes[tape].length || (long) j + n > tapes[other].length) {
            return PLACE;
        }
        long[] before = tapes[tape].clone();
        for (int x = 0; x < n; x++) {
            tapes[other][j + x] = before[i + x];
        }
        return n;
    }
}
