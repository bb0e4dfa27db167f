import java.lang.reflect.Method;
import java.lang.reflect.Modifier;
import java.util.Arrays;
import java.util.Comparator;
import java.util.List;

/** What the tests of boundaries share: answers that are due, and calls that are refused and change nothing. */
abstract class Bounds {
    static final int NONE = -1, BAD = -2, STATE = -3, FULL = -4, OVER = -15;
    static final int NOTHING = -11, CAST = -12, PLACE = -13, SIZE = -14, NIL = -5;
    static final long NO = Long.MIN_VALUE;
    static final int MIN = Integer.MIN_VALUE, MAX = Integer.MAX_VALUE;

    private static Check check;
    private static String test;

    interface Call {
        long on(PaintFrames x);
    }

    interface Setup {
        void on(PaintFrames x);
    }

    static void due(String call, long got, long want) {
        check.due(test + ": " + call, got, want);
    }

    static void holds(String what, boolean so) {
        check.holds(test + ": " + what, so);
    }

    /** A call on the rich object (set up further, as told) is answered so and leaves all as it is without the call. */
    static void refused(String name, long want, Call call, Setup... further) {
        PaintFrames x = setUp(further);
        PaintFrames untouched = setUp(further);
        due(name, call.on(x), want);
        same(name, Given.shownBy(x), Given.shownBy(untouched));
    }

    /** The same, but that TROUBLE tells of it. */
    static void refusedAsOver(String name, int generators, Call call, Setup... further) {
        PaintFrames x = setUp(further);
        PaintFrames untouched = setUp(further);
        due(name, call.on(x), OVER);
        dueCauses(x, 5, generators, 6, 120);
        sameButForTrouble(name, Given.shownBy(x), Given.shownBy(untouched));
    }

    private static PaintFrames setUp(Setup... further) {
        PaintFrames x = Given.rich();
        for (Setup s : further) {
            s.on(x);
        }
        return x;
    }

    static void same(String name, List<String> got, List<String> want) {
        for (int i = 0; i < want.size(); i++) {
            holds(name + " leaves " + want.get(i) + " (is " + got.get(i) + ")", got.get(i).equals(want.get(i)));
        }
    }

    static void sameButForTrouble(String name, List<String> got, List<String> want) {
        got.removeIf(line -> line.startsWith("cause("));
        want.removeIf(line -> line.startsWith("cause("));
        same(name, got, want);
    }

    static void dueCauses(PaintFrames x, int... sortsAndNumbers) {
        for (int i = 0; i < 4; i++) {
            boolean there = 2 * i < sortsAndNumbers.length;
            due("cause(" + i + ", 0)", x.cause(i, 0), there ? sortsAndNumbers[2 * i] : NIL);
            due("cause(" + i + ", 1)", x.cause(i, 1), there ? sortsAndNumbers[2 * i + 1] : NIL);
        }
    }

    /** Each static method of the class that takes and answers nothing is one test, told by its name. */
    static void runAll(Class<?> tests) throws Exception {
        check = new Check(tests.getSimpleName());
        Method[] all = tests.getDeclaredMethods();
        Arrays.sort(all, Comparator.comparing(Method::getName));
        int ran = 0;
        for (Method m : all) {
            boolean isTest = m.getParameterCount() == 0 && m.getReturnType() == void.class;
            if (Modifier.isStatic(m.getModifiers()) && isTest && !m.isSynthetic()) {
                test = m.getName();
                m.setAccessible(true);
                m.invoke(null);
                ran++;
            }
        }
        System.out.println(tests.getSimpleName() + ": " + ran + " tests");
        check.end();
    }
}
