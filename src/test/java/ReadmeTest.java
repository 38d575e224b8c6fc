import java.io.IOException;
import java.lang.reflect.Field;
import java.lang.reflect.Method;
import java.lang.reflect.Modifier;
import java.nio.file.Files;
import java.nio.file.Path;
import java.util.ArrayList;
import java.util.HashMap;
import java.util.List;
import java.util.Map;
import java.util.regex.Matcher;
import java.util.regex.Pattern;
import java.util.stream.Stream;

/** README.md says how to use the class and how to run its tests; the calls that it shows answer as it says. */
public final class ReadmeTest {
    private static final Path README = Path.of("README.md");
    private static final Path TESTS = Path.of("src/test/java");
    private static final Pattern BLOCK = Pattern.compile("(?s)\n```java\n(.*?)```");
    private static final String MADE = "ValleyGuides guides = new ValleyGuides();";
    private static final Pattern CALL =
        Pattern.compile("(?:(?:int|long) (\\w+) = )?guides\\.(\\w+)\\(([^()]*)\\);\\s*// (-?\\d+)(?::.*)?");

    private static final Due due = new Due();

    /** What stands below a heading, up to the next one. */
    private static String section(String readme, String heading) {
        int begin = readme.indexOf("\n## " + heading + "\n");
        int end = readme.indexOf("\n## ", begin + 1);
        return begin < 0 ? "" : readme.substring(begin, end < 0 ? readme.length() : end);
    }

    private static void usage(String usage) {
        due.promise("README.md, how to use the class");
        due.holds("where it is", usage.contains("src/main/java/ValleyGuides.java"));
        for (Method method : ValleyGuides.class.getDeclaredMethods()) {
            if (Modifier.isPublic(method.getModifiers())) {
                due.holds("it tells of " + method.getName(), usage.contains("`" + method.getName() + "("));
            }
        }
        for (Field field : ValleyGuides.class.getDeclaredFields()) {
            if (Modifier.isPublic(field.getModifiers())) {
                due.holds("it tells of " + field.getName(), usage.contains("`" + field.getName() + "` (-"));
            }
        }
    }

    private static Object argument(String word, Class<?> type, Map<String, Long> names) {
        if (type == boolean.class) {
            return Boolean.parseBoolean(word);
        }
        Long named = names.get(word);
        long number = named != null ? named : Long.decode(word.endsWith("L") ? word.substring(0, word.length() - 1) : word);
        return type == long.class ? (Object) number : (Object) (int) number;
    }

    private static void call(ValleyGuides guides, Matcher line, Map<String, Long> names) {
        Method method = Calls.named(guides, line.group(2));
        String[] words = line.group(3).isEmpty() ? new String[0] : line.group(3).split(", ");
        List<Object> arguments = new ArrayList<>();
        for (int i = 0; i < words.length; i++) {
            arguments.add(argument(words[i], method.getParameterTypes()[i], names));
        }
        long answer = Calls.answer(guides, method, arguments);
        if (line.group(1) != null) {
            names.put(line.group(1), answer);
        }
        due.is(line.group(), answer, Long.parseLong(line.group(4)));
    }

    /** All blocks are one run of calls on one object. */
    private static void examples(String usage) {
        due.promise("README.md, its calls");
        Map<String, Long> names = new HashMap<>();
        ValleyGuides guides = null;
        int calls = 0;
        Matcher block = BLOCK.matcher(usage);
        while (block.find()) {
            for (String line : block.group(1).split("\n")) {
                Matcher call = CALL.matcher(line);
                if (line.equals(MADE)) {
                    guides = new ValleyGuides();
                } else {
                    boolean understood = call.matches() && guides != null;
                    due.holds("understood: " + line, understood);
                    if (understood) {
                        call(guides, call, names);
                        calls++;
                    }
                }
            }
        }
        due.holds("there are calls", calls > 0);
    }

    private static void running(String running) throws IOException {
        due.promise("README.md, how to run its tests");
        due.holds("by what", running.contains("\n    .ci/run\n"));
        due.holds("which of its own", running.contains("`src/test/java`"));
        due.holds("which besides", running.contains("`../shared/tests`"));
        try (Stream<Path> files = Files.list(TESTS)) {
            for (Path file : files.filter(path -> path.toString().endsWith("Test.java")).sorted().toList()) {
                String name = file.getFileName().toString().replace(".java", "");
                due.holds("it tells of " + name, running.contains("`" + name + "`"));
            }
        }
    }

    public static void main(String[] arguments) throws IOException {
        due.promise("README.md");
        boolean isThere = Files.isRegularFile(README);
        due.holds("it is there", isThere);
        String readme = isThere ? Files.readString(README) : "";
        usage(section(readme, "How to use it"));
        examples(section(readme, "How to use it"));
        running(section(readme, "How to run its tests"));
        due.close();
    }
}
