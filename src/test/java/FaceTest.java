import java.io.IOException;
import java.lang.reflect.Field;
import java.lang.reflect.Member;
import java.lang.reflect.Method;
import java.lang.reflect.Modifier;
import java.nio.file.Files;
import java.nio.file.Path;
import java.util.ArrayList;
import java.util.List;
import java.util.Set;
import java.util.TreeSet;
import java.util.regex.Pattern;

/** The public face, and what of LANGUAGE.md can be read off the class and its file. */
public final class FaceTest {
    private static final Path SOURCE = Path.of("src", "main", "java", "SpringBalance.java");

    private static final String FACE = """
        int setLoad(int) int put(int) int take(int) int hours(int) int zero() int undo() int count(int) \
        int turning(int,int) long account() int again() int setPoint(int,int) int removePoint(int) \
        int curve(int,int) int setBreak(int,int) int removeBreak(int) int entry(int,int) int readingAt(int) \
        int slopeBits(int) int set(int,int) int addWeight(int,int,int,int) int removeWeight(int) int weight(int,int) \
        int calibration(int,int) int adopt(int) int type(int) int clearText() int fault() int move() int why()""";

    private static final String[] FORBIDDEN = {"\\bimport\\b", "->", "::", "\\bassert\\b", "\\bsynchronized\\b",
        "\\bfinally\\b", "\\bthrow\\b", "\\bcatch\\b", "\\bpackage\\b", "\\bSystem\\.(?!arraycopy)", "Exact\\(",
        "\\bFloat\\b", "\\bDouble\\b", "\"", "hashCode|toString|equals", "\\bprotected\\b", "[^\\x00-\\x7f]",
        "\\bList\\b|ArrayList|String", "\\bstatic \\{"};

    public static void main(String[] args) throws IOException {
        theFace();
        nothingElseIsVisible();
        classesAndFields();
        theSource();
        Check.finish();
    }

    private static void theFace() {
        Set<String> due = new TreeSet<>(List.of(FACE.split("(?<=\\)) ")));
        Set<String> found = new TreeSet<>();
        for (Method m : SpringBalance.class.getDeclaredMethods()) {
            if (Modifier.isPublic(m.getModifiers())) {
                List<String> types = new ArrayList<>();
                for (Class<?> type : m.getParameterTypes()) {
                    types.add(type.getName());
                }
                found.add(m.getReturnType() + " " + m.getName() + "(" + String.join(",", types) + ")");
            }
        }
        Check.due("the number of methods", due.size(), 29);
        Check.due("the methods are those of the document: " + found, found.equals(due) ? 1 : 0, 1);
        Check.due("public constructors", SpringBalance.class.getConstructors().length, 1);
        Check.due("public constants", SpringBalance.class.getFields().length, 4);
        int modifiers = SpringBalance.class.getModifiers();
        Check.due("public and final", Modifier.isPublic(modifiers) && Modifier.isFinal(modifiers) ? 1 : 0, 1);
    }

    private static void nothingElseIsVisible() {
        List<Member> members = new ArrayList<>(List.of(SpringBalance.class.getDeclaredFields()));
        members.addAll(List.of(SpringBalance.class.getDeclaredMethods()));
        members.addAll(List.of(SpringBalance.class.getDeclaredConstructors()));
        Set<String> names = new TreeSet<>();
        for (Method m : SpringBalance.class.getMethods()) {
            names.add(m.getName());
        }
        for (Member m : members) {
            boolean hidden = Modifier.isPrivate(m.getModifiers());
            Check.due(m.getName() + " is public or private", hidden || Modifier.isPublic(m.getModifiers()) ? 1 : 0, 1);
        }
        privateNames(SpringBalance.class, names);
        for (Class<?> inner : SpringBalance.class.getDeclaredClasses()) {
            privateNames(inner, names);
        }
    }

    private static void privateNames(Class<?> type, Set<String> publicNames) {
        for (Method m : type.getDeclaredMethods()) {
            if (Modifier.isPrivate(m.getModifiers())) {
                Check.due(m.getName() + " has a name of its own", publicNames.contains(m.getName()) ? 1 : 0, 0);
            }
            Check.due(m.getName() + " has at most seven parameters", m.getParameterCount() <= 7 ? 1 : 0, 1);
        }
    }

    private static void classesAndFields() {
        Class<?>[] inners = SpringBalance.class.getDeclaredClasses();
        Check.due("at most twelve classes", inners.length + 1 <= 12 ? 1 : 0, 1);
        List<Class<?>> all = new ArrayList<>(List.of(inners));
        all.add(SpringBalance.class);
        for (Class<?> type : all) {
            int fields = 0;
            for (Field f : type.getDeclaredFields()) {
                boolean fixed = Modifier.isStatic(f.getModifiers());
                Check.due(f.getName() + " is no changing static", fixed && !Modifier.isFinal(f.getModifiers()) ? 1 : 0,
                    0);
                fields += fixed ? 0 : 1;
            }
            Check.due(type.getName() + " has at most twenty fields", fields <= 20 ? 1 : 0, 1);
        }
        for (Class<?> inner : inners) {
            Check.due(inner.getName() + " is static", Modifier.isStatic(inner.getModifiers()) ? 1 : 0, 1);
            Check.due(inner.getName() + " is private", Modifier.isPrivate(inner.getModifiers()) ? 1 : 0, 1);
        }
    }

    private static void theSource() throws IOException {
        String whole = Files.readString(SOURCE);
        String code = whole.replaceAll("(?s)/\\*.*?\\*/", "").replaceAll("//[^\n]*", "");
        for (String forbidden : FORBIDDEN) {
            boolean found = Pattern.compile(forbidden).matcher(code).find();
            Check.due("the file does without " + forbidden, found ? 1 : 0, 0);
        }
        Check.due("the file has no other signs", whole.matches("[\\x0a\\x20-\\x7e]*") ? 1 : 0, 1);
    }
}
