import java.io.IOException;
import java.lang.reflect.Method;
import java.nio.file.Files;
import java.nio.file.Path;
import java.util.HashMap;
import java.util.List;
import java.util.Map;
import java.util.TreeSet;
import java.util.regex.Matcher;
import java.util.regex.Pattern;

/**
 * What README.md says: each call of its example answers what stands behind it, and it explains each answer of check(),
 * each constant, and how many calls an object is used for, and names each test. Run where README.md lies.
 */
public final class ReadmeTest {
    private static final Pattern NEW = Pattern.compile("AbilityChecker x = new AbilityChecker\\(\\);");
    private static final Pattern CALL = Pattern.compile("(?:int (\\w+) = )?x\\.(\\w+)\\(([^)]*)\\);\\s*// (-?\\w+): .*");
    private static final int LAST_FAULT = 16;

    private static final Map<String, Long> NAMED = new HashMap<>();
    private static final TreeSet<String> CALLED = new TreeSet<>();
    private static AbilityChecker x;

    public static void main(String[] args) throws IOException, ReflectiveOperationException {
        NAMED.put("BAD", -1L);
        NAMED.put("NO", -2L);
        NAMED.put("FULL", -3L);
        List<String> lines = Files.readAllLines(Path.of("README.md"));
        boolean inExample = false;
        for (String line : lines) {
            if (line.startsWith("```")) {
                inExample = line.equals("```java");
            } else if (inExample && !line.isBlank()) {
                holds(line);
            }
        }
        callsAll();
        explains(lines);
        namesTheTests(lines);
        Due.end();
    }

    private static void holds(String line) throws ReflectiveOperationException {
        if (NEW.matcher(line).matches()) {
            x = new AbilityChecker();
            return;
        }
        Matcher call = CALL.matcher(line);
        if (x == null || !call.matches()) {
            Due.due("the example's line '" + line + "' can be read", 0, 1);
            return;
        }
        CALLED.add(call.group(2));
        long got = answer(call.group(2), call.group(3).isEmpty() ? new String[0] : call.group(3).split(", "));
        Due.due(line, got, number(call.group(4)));
        if (call.group(1) != null) {
            NAMED.put(call.group(1), got);
        }
    }

    private static long answer(String name, String[] words) throws ReflectiveOperationException {
        for (Method method : AbilityChecker.class.getMethods()) {
            Class<?>[] types = method.getParameterTypes();
            if (method.getName().equals(name) && types.length == words.length) {
                Object[] arguments = new Object[words.length];
                for (int k = 0; k < words.length; k++) {
                    if (types[k] == int.class) {
                        arguments[k] = (int) number(words[k]);
                    } else {
                        arguments[k] = number(words[k]);
                    }
                }
                return ((Number) method.invoke(x, arguments)).longValue();
            }
        }
        Due.due("there is a call " + name, 0, 1);
        return 0;
    }

    private static long number(String word) {
        return NAMED.containsKey(word) ? NAMED.get(word) : Long.decode(word);
    }

    private static void callsAll() {
        for (Method method : AbilityChecker.class.getDeclaredMethods()) {
            boolean isOfTheFace = (method.getModifiers() & java.lang.reflect.Modifier.PUBLIC) != 0;
            boolean isCalled = CALLED.contains(method.getName());
            Due.due("the example calls " + method.getName(), !isOfTheFace || isCalled ? 1 : 0, 1);
        }
    }

    private static void explains(List<String> lines) {
        for (int why = 1; why <= LAST_FAULT; why++) {
            starts(lines, "| -" + why + " | ");
        }
        starts(lines, "| -101 | ");
        starts(lines, "| `BAD` | " + AbilityChecker.BAD + " | ");
        starts(lines, "| `NO` | " + AbilityChecker.NO + " | ");
        starts(lines, "| `FULL` | " + AbilityChecker.FULL + " | ");
        starts(lines, "An object is used for at most 512 calls");
        starts(lines, "    .ci/run");
    }

    private static void starts(List<String> lines, String beginning) {
        int found = 0;
        for (String line : lines) {
            found += line.startsWith(beginning) ? 1 : 0;
        }
        Due.due("lines that start with '" + beginning + "'", found, 1);
    }

    private static void namesTheTests(List<String> lines) throws IOException {
        try (java.util.stream.Stream<Path> files = Files.list(Path.of("tests"))) {
            for (Path file : (Iterable<Path>) files::iterator) {
                String name = file.getFileName().toString().replace(".java", "");
                if (name.endsWith("Test")) {
                    starts(lines, "| `" + name + "` | ");
                }
            }
        }
    }
}
