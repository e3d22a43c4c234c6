import java.io.File;
import java.io.IOException;
import java.lang.reflect.Method;
import java.nio.file.Files;
import java.nio.file.Path;
import java.util.ArrayList;
import java.util.HashMap;
import java.util.List;
import java.util.Map;
import java.util.Set;
import java.util.TreeSet;
import java.util.regex.Matcher;
import java.util.regex.Pattern;

/** README.md tells how to use the class and how to run its tests: what it tells must be so. */
public final class ReadmeTest {
    private static final Pattern CALL = Pattern.compile("balance\\.(\\w+)\\(([^;]*)\\);\\s*// (-?\\d+|[A-Z_]+)");
    private static final Pattern MARKED = Pattern.compile("`(\\w+)\\([^`]*\\)` \\*");

    private static final Set<String> CHANGES = Set.of("setLoad", "put", "take", "hours", "zero", "setPoint",
        "removePoint", "setBreak", "removeBreak", "set", "addWeight", "removeWeight", "adopt", "move");

    public static void main(String[] args) throws ReflectiveOperationException, IOException {
        String readme = Files.readString(Path.of("README.md"));
        theExample(readme);
        theMethods(readme);
        theTests(readme);
        Check.finish();
    }

    /** Each line of the example is a call with its answer behind it. */
    private static void theExample(String readme) throws ReflectiveOperationException {
        SpringBalance balance = new SpringBalance();
        int calls = 0;
        for (String line : readme.split("\n")) {
            if (line.startsWith("balance.")) {
                Matcher matcher = CALL.matcher(line);
                boolean found = matcher.find();
                Check.due("a call with its answer: " + line, found ? 1 : 0, 1);
                if (found) {
                    calls++;
                    Check.due(line, answer(balance, matcher.group(1), matcher.group(2)), number(matcher.group(3)));
                }
            }
        }
        Check.due("there is an example", calls > 0 ? 1 : 0, 1);
    }

    private static Map<String, Method> face() {
        Map<String, Method> face = new HashMap<>();
        for (Method method : SpringBalance.class.getMethods()) {
            if (method.getDeclaringClass() == SpringBalance.class) {
                face.put(method.getName(), method);
            }
        }
        return face;
    }

    private static long answer(SpringBalance balance, String name, String words) throws ReflectiveOperationException {
        List<Object> arguments = new ArrayList<>();
        for (String word : words.isEmpty() ? new String[0] : words.split(", ")) {
            arguments.add(word.startsWith("'") ? (int) word.charAt(1) : Integer.valueOf(word));
        }
        return ((Number) face().get(name).invoke(balance, arguments.toArray())).longValue();
    }

    private static long number(String word) throws ReflectiveOperationException {
        boolean named = Character.isLetter(word.charAt(0));
        return named ? SpringBalance.class.getField(word).getInt(null) : Long.parseLong(word);
    }

    private static void theMethods(String readme) {
        Set<String> told = new TreeSet<>();
        Set<String> marked = new TreeSet<>();
        for (String line : readme.split("\n")) {
            if (!line.startsWith("| `") || !line.contains("(")) {
                continue;
            }
            String cell = line.substring(0, line.indexOf('|', 1));
            Matcher methods = Pattern.compile("`(\\w+)\\(").matcher(cell);
            while (methods.find()) {
                Check.due("the first row of " + methods.group(1), told.add(methods.group(1)) ? 1 : 0, 1);
            }
            Matcher changes = MARKED.matcher(cell);
            while (changes.find()) {
                marked.add(changes.group(1));
            }
        }
        Check.same("the methods of the table", told.toString(), new TreeSet<>(face().keySet()).toString());
        Check.same("the changes", marked.toString(), new TreeSet<>(CHANGES).toString());
    }

    private static void theTests(String readme) {
        Set<String> there = new TreeSet<>();
        for (File file : new File("src/test/java").listFiles()) {
            if (file.getName().endsWith("Test.java")) {
                there.add(file.getName().replace(".java", ""));
            }
        }
        Set<String> told = new TreeSet<>();
        Matcher names = Pattern.compile("(?m)^\\| `(\\w+Test)` \\|").matcher(readme);
        while (names.find()) {
            told.add(names.group(1));
        }
        Check.same("the tests of the lists", told.toString(), there.toString());
        Check.due("the way to run them is told", readme.contains("bash .ci/run") ? 1 : 0, 1);
    }
}
