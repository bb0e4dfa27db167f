import java.lang.reflect.Field;
import java.lang.reflect.Method;
import java.lang.reflect.Modifier;
import java.nio.file.Files;
import java.nio.file.Path;
import java.util.ArrayList;
import java.util.List;
import java.util.TreeSet;
import java.util.regex.Matcher;
import java.util.regex.Pattern;

/** The class has the document's face and nothing beside it, and its source keeps to the rules that can be seen in it. */
public final class FaceTest {
    private static final String[] FACE = {
        "int places(int)", "int kinds(int)", "int weight(int,int)", "int generator(int,int)", "int drop()",
        "int of(int,int)", "int lay(int,int,int)", "int rack(int,int)", "int move(int,int)", "int told(int)",
        "int index(int,int,int)", "long part(int,int,int)", "long many(int,int)", "int least(int,int)",
        "int size(int,int)", "int kindOf(int,int,int)", "int heavy(int,int)", "int use(int,int)",
        "int same(int,int,int)", "int handed(int,int)", "int even(int)", "long likely(int,int)", "int mean(int,int)",
        "long spread(int,int)", "int feed(int)", "int read()", "int cause(int,int)", "int see(int,int,boolean)",
        "int fits(int)", "int event(int,int)", "int after()", "int judge(int,int,int)", "int image()", "int undo()",
        "int count(int)", "int tape(int,int,int)", "int item(int,int,long)", "long peek(int,int)",
        "int shift(int,int,int,int,int)"};
    private static final String[] CONSTANTS = {"int NONE", "int BAD", "int STATE", "int FULL", "int OVER", "long NO"};
    /** What rules 3, 4, 6 and 10 leave out, or the program has no need of. */
    private static final String[] NOT_THERE = {
        "\\bcatch\\b", "\\btry\\b", "\\bfinally\\b", "\\bthrow\\b", "\\bimport\\b", "\\bpackage\\b", "\\bsynchronized\\b",
        "\\bassert\\b", "->", "::", "\\bFloat\\.", "\\bDouble\\.", "Exact\\b", "\\bstatic\\s*\\{", "\\bnull\\b",
        "\\binstanceof\\b", "\\bObject\\b", "\\bprotected\\b", "\\bhashCode\\b", "\\btoString\\b", "\\bequals\\b"};

    private static final Check check = new Check("FaceTest");

    private static String signature(Method m) {
        StringBuilder b = new StringBuilder(m.getReturnType() + " " + m.getName() + "(");
        for (Class<?> p : m.getParameterTypes()) {
            b.append(b.charAt(b.length() - 1) == '(' ? "" : ",").append(p);
        }
        return b + ")";
    }

    private static void membersAreTheFace() {
        Class<?> c = PaintFrames.class;
        check.holds("the class is public and final", Modifier.isPublic(c.getModifiers()) && Modifier.isFinal(c.getModifiers()));
        check.due("constructors", c.getDeclaredConstructors().length, 1);
        check.holds("the constructor is public", Modifier.isPublic(c.getDeclaredConstructors()[0].getModifiers()));
        TreeSet<String> open = new TreeSet<>();
        TreeSet<String> openNames = new TreeSet<>();
        for (Method m : c.getDeclaredMethods()) {
            if (!Modifier.isPrivate(m.getModifiers())) {
                open.add(signature(m));
                openNames.add(m.getName());
                check.holds(m + " is public and no static one",
                        Modifier.isPublic(m.getModifiers()) && !Modifier.isStatic(m.getModifiers()));
            }
        }
        check.holds("the methods are the document's: " + open, open.equals(new TreeSet<>(List.of(FACE))));
        TreeSet<String> constants = new TreeSet<>();
        for (Field f : c.getDeclaredFields()) {
            if (!Modifier.isPrivate(f.getModifiers())) {
                constants.add(f.getType() + " " + f.getName());
                check.holds(f + " is a public constant", f.getModifiers() == (Modifier.PUBLIC | Modifier.STATIC | Modifier.FINAL));
            }
        }
        check.holds("the constants are the document's: " + constants, constants.equals(new TreeSet<>(List.of(CONSTANTS))));
        noOtherBearsTheirNames(c, openNames);
    }

    private static void noOtherBearsTheirNames(Class<?> c, TreeSet<String> openNames) {
        List<Class<?>> all = new ArrayList<>(List.of(c.getDeclaredClasses()));
        check.holds("at most twelve classes", all.size() + 1 <= 12);
        for (Class<?> inside : all) {
            check.holds(inside + " is static", Modifier.isStatic(inside.getModifiers()));
            check.holds(inside + " is private", Modifier.isPrivate(inside.getModifiers()));
            for (Method m : inside.getDeclaredMethods()) {
                check.holds(m + " has a name of its own", !openNames.contains(m.getName()));
            }
            int fields = 0;
            for (Field f : inside.getDeclaredFields()) {
                fields += Modifier.isStatic(f.getModifiers()) ? 0 : 1;
            }
            check.holds(inside + " has at most twenty fields", fields <= 20);
        }
        for (Method m : c.getDeclaredMethods()) {
            check.holds(m + " is no private one with a public one's name",
                    !Modifier.isPrivate(m.getModifiers()) || !openNames.contains(m.getName()));
            check.holds(m + " takes at most seven", m.getParameterCount() <= 7);
        }
    }

    /** Rule 4: of the library the program uses System.arraycopy and Long.MIN_VALUE, and makes objects of its own alone. */
    private static void librariesAreNotUsed(String code) {
        TreeSet<String> own = new TreeSet<>();
        for (Class<?> inside : PaintFrames.class.getDeclaredClasses()) {
            own.add(inside.getSimpleName());
        }
        TreeSet<String> others = new TreeSet<>();
        Matcher qualified = Pattern.compile("\\b([A-Z][a-z]\\w*)\\.(\\w+)").matcher(code);
        while (qualified.find()) {
            if (!own.contains(qualified.group(1))) {
                others.add(qualified.group());
            }
        }
        check.holds("of the library: " + others, others.equals(new TreeSet<>(List.of("Long.MIN_VALUE", "System.arraycopy"))));
        Matcher made = Pattern.compile("\\bnew (\\w+)\\b").matcher(code);
        while (made.find()) {
            String name = made.group(1);
            check.holds("new " + name, own.contains(name) || name.equals("int") || name.equals("long"));
        }
    }

    private static void sourceKeepsToTheRules() throws Exception {
        String source = Files.readString(Path.of(System.getProperty("paintframes.source", "src/main/java/PaintFrames.java")));
        check.holds("all signs are 1 to 127", source.chars().allMatch(c -> c > 0 && c < 128));
        String code = source.replaceAll("(?s)/\\*.*?\\*/", "").replaceAll("//[^\\n]*", "");
        librariesAreNotUsed(code);
        for (String not : NOT_THERE) {
            check.holds("no " + not, !Pattern.compile(not).matcher(code).find());
        }
        Matcher fields = Pattern.compile("\\bstatic\\s+(?!final\\b|class\\b)[\\w\\[\\]]+\\s+\\w+\\s*[=;]").matcher(code);
        check.holds("static fields are final", !fields.find());
        int lines = 0;
        int longest = 0;
        for (String line : code.split("\n")) {
            boolean opens = line.matches(" {4,8}(public |private |static |final )*[\\w\\[\\]]+ ?\\w*\\(.*\\) \\{");
            lines = opens ? 1 : lines + 1;
            longest = line.matches(" {4,8}\\}") ? Math.max(longest, lines) : longest;
            lines = line.matches(" {4,8}\\}") ? 0 : lines;
        }
        check.holds("methods have at most 60 lines (longest " + longest + ")", longest <= 60);
    }

    public static void main(String[] args) throws Exception {
        membersAreTheFace();
        sourceKeepsToTheRules();
        check.end();
    }
}
