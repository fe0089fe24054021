import java.io.IOException;
import java.lang.reflect.Method;
import java.lang.reflect.Modifier;
import java.nio.file.Files;
import java.nio.file.Path;
import java.util.ArrayList;
import java.util.HashMap;
import java.util.List;
import java.util.Map;
import java.util.TreeSet;
import java.util.regex.Matcher;
import java.util.regex.Pattern;

/**
 * Makes the calls of README.md's example, read from that file, and holds each to the answer that stands behind it.
 * A row of the example is: [type name =] office.call(..); // answer: words
 */
public final class ReadmeRuns {

    private static final String MADE = "OceanMail office = new OceanMail();";
    private static final Pattern ROW = Pattern.compile(
            "(?:(int|long|boolean) (\\w+) = )?office\\.(\\w+)\\((.*)\\); +// (-?\\d+|true|false|NONE): \\S.*");

    private static int wrong = 0;
    private static int calls = 0;

    public static void main(String[] args) throws ReflectiveOperationException, IOException {
        List<String> readme = Files.readAllLines(Path.of("README.md"));
        TreeSet<String> shown = new TreeSet<>();
        List<List<String>> examples = javaBlocks(readme);
        if (examples.isEmpty()) fail("README.md shows no example");
        for (List<String> example : examples) play(example, shown);
        for (String name : face().keySet()) {
            if (!shown.contains(name)) fail("README.md does not show " + name);
        }
        testsAreNamed(String.join("\n", readme));
        System.out.println(wrong == 0 ? calls + " answers are as README.md says" : wrong + " faults of README.md");
        if (wrong != 0) System.exit(1);
    }

    private static void fail(String what) {
        wrong++;
        System.out.println(what);
    }

    private static List<List<String>> javaBlocks(List<String> readme) {
        List<List<String>> blocks = new ArrayList<>();
        List<String> block = null;
        for (String line : readme) {
            if (block == null && line.equals("```java")) {
                block = new ArrayList<>();
            } else if (block != null && line.equals("```")) {
                blocks.add(block);
                block = null;
            } else if (block != null) {
                block.add(line);
            }
        }
        if (block != null) fail("an example of README.md has no end");
        return blocks;
    }

    private static Map<String, Method> face() {
        Map<String, Method> face = new HashMap<>();
        for (Method method : OceanMail.class.getDeclaredMethods()) {
            if (Modifier.isPublic(method.getModifiers())) face.put(method.getName(), method);
        }
        return face;
    }

    private static void play(List<String> example, TreeSet<String> shown) throws ReflectiveOperationException {
        OceanMail office = null;
        Map<String, String> names = new HashMap<>();
        names.put("OceanMail.NONE", String.valueOf(OceanMail.NONE));
        for (String row : example) {
            if (row.isBlank() || row.startsWith("//")) continue;
            if (row.equals(MADE)) {
                office = new OceanMail();
                continue;
            }
            Matcher parts = ROW.matcher(row);
            Method method = parts.matches() ? face().get(parts.group(3)) : null;
            if (office == null || method == null) {
                fail("no call with its answer: " + row);
                continue;
            }
            String answer = String.valueOf(method.invoke(office, told(method, parts.group(4), names)));
            String due = parts.group(5).equals("NONE") ? String.valueOf(OceanMail.NONE) : parts.group(5);
            calls++;
            shown.add(method.getName());
            if (!answer.equals(due)) fail("answered " + answer + ": " + row);
            if (parts.group(2) != null) keep(names, parts, method, answer);
        }
    }

    private static void keep(Map<String, String> names, Matcher parts, Method method, String answer) {
        if (!method.getReturnType().getName().equals(parts.group(1))) fail("another type: " + parts.group());
        if (names.put(parts.group(2), answer) != null) fail("a name for the second time: " + parts.group());
    }

    private static Object[] told(Method method, String list, Map<String, String> names) {
        Class<?>[] types = method.getParameterTypes();
        String[] texts = list.split(", ");
        if (texts.length != types.length) throw new IllegalArgumentException(method.getName() + "(" + list + ")");
        Object[] told = new Object[types.length];
        for (int k = 0; k < types.length; k++) {
            String text = names.getOrDefault(texts[k], texts[k]);
            if (types[k] == int.class) told[k] = Integer.decode(text);
            if (types[k] == double.class) told[k] = Double.valueOf(text);
            if (types[k] == boolean.class) told[k] = truthOf(text);
        }
        return told;
    }

    private static Boolean truthOf(String text) {
        if (!text.equals("true") && !text.equals("false")) throw new IllegalArgumentException(text);
        return Boolean.valueOf(text);
    }

    /** README.md says how to run the tests: none of them is left out there. */
    private static void testsAreNamed(String readme) throws IOException {
        if (!readme.contains("`.ci/run`")) fail("README.md does not say how to run the tests");
        try (var tests = Files.list(Path.of("src/test/java"))) {
            for (Path test : tests.toList()) {
                String name = test.getFileName().toString().replace(".java", "");
                if (!readme.contains("- `" + name + "`: ")) fail("README.md does not name the test " + name);
            }
        }
    }
}
