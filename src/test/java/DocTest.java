import java.io.IOException;
import java.lang.reflect.Field;
import java.lang.reflect.Method;
import java.lang.reflect.Modifier;
import java.nio.file.Files;
import java.nio.file.Path;
import java.util.ArrayList;
import java.util.List;
import java.util.TreeMap;
import java.util.TreeSet;
import java.util.regex.Matcher;
import java.util.regex.Pattern;
import java.util.stream.Stream;

/**
 * Every sentence of the promises and of the terms is one that a test names, and no test names one that is not there; the
 * face is the one that the document shows.
 */
public final class DocTest {
    private static final Path DOCUMENT = Path.of("../shared/DOC.md");
    private static final Path TESTS = Path.of("src/test/java");
    private static final int PROMISES = 48, TERMS = 0;
    private static final String TEXT = "((?:\\s*\\+?\\s*\"[^\"]*\")+)\\s*\\);";
    private static final Pattern NAMED = Pattern.compile("due\\.(?:says\\((\\d+),|terms\\()" + TEXT);

    private static final Due due = new Due();

    private static String oneLine(String text) {
        return text.replaceAll("\\s+", " ").trim();
    }

    private static String section(String document, String from, String to) {
        int begin = document.indexOf(from);
        int end = document.indexOf(to, begin + from.length());
        return begin < 0 || end < 0 ? "" : document.substring(begin + from.length(), end);
    }

    private static String promise(String document, int number) {
        String whole = section(document, "## Promise " + number + ":", "\n## ");
        return oneLine(whole.substring(whole.indexOf("`: ") + 3));
    }

    /** The terms without what only parts them, and without what says where the face has its remarks. */
    private static String terms(String document) {
        String whole = section(document, "## Terms", "\n## ");
        return oneLine(whole.replaceAll("(?m)^(```.*|Ahead of the calls .*|======== \\d )", ""));
    }

    private static TreeMap<Integer, List<String>> named() throws IOException {
        TreeMap<Integer, List<String>> all = new TreeMap<>();
        try (Stream<Path> files = Files.list(TESTS)) {
            for (Path file : files.filter(path -> path.toString().endsWith("Test.java")).sorted().toList()) {
                Matcher matcher = NAMED.matcher(Files.readString(file));
                while (matcher.find()) {
                    int number = matcher.group(1) == null ? TERMS : Integer.parseInt(matcher.group(1));
                    String sentence = matcher.group(2).replaceAll("\"\\s*\\+\\s*\"", "").replace("\"", "");
                    all.computeIfAbsent(number, any -> new ArrayList<>()).add(oneLine(sentence));
                }
            }
        }
        return all;
    }

    /** Longer ones first, so that none takes away a part of another one. */
    private static void covered(String where, String said, List<String> sentences) {
        String rest = said;
        List<String> byLength = new ArrayList<>(sentences);
        byLength.sort((a, b) -> b.length() - a.length());
        for (String sentence : byLength) {
            due.holds(where + " says '" + sentence + "'", said.contains(sentence));
            rest = rest.replace(sentence, "\1");
        }
        String left = rest.replaceAll("[\1 ]+", " ").trim();
        due.holds(where + " has a test for '" + left + "'", left.isEmpty());
    }

    /** The members that others see, each as the document writes it. */
    private static TreeSet<String> face() throws IllegalAccessException {
        TreeSet<String> members = new TreeSet<>();
        for (Method method : ValleyGuides.class.getDeclaredMethods()) {
            StringBuilder text = new StringBuilder("public " + method.getReturnType() + " " + method.getName() + "(");
            for (Class<?> type : method.getParameterTypes()) {
                text.append(text.charAt(text.length() - 1) == '(' ? "" : ", ").append(type);
            }
            if (!Modifier.isPrivate(method.getModifiers())) {
                members.add(text.append(");").toString());
            }
        }
        for (Field field : ValleyGuides.class.getDeclaredFields()) {
            if (!Modifier.isPrivate(field.getModifiers())) {
                members.add("public static final " + field.getType() + " " + field.getName() + " = " + field.get(null) + ";");
            }
        }
        members.add("public ValleyGuides();");
        return members;
    }

    /** Without the names of parameters, which are free, and each constant by itself. */
    private static TreeSet<String> shown(String document) {
        TreeSet<String> members = new TreeSet<>();
        for (String line : section(document, "```java\npublic final class ValleyGuides {\n", "}\n```").split("\n")) {
            String member = line.trim();
            if (member.startsWith("public static final int ")) {
                for (String constant : member.substring("public static final int ".length()).split("[,;] ?")) {
                    members.add("public static final int " + constant + ";");
                }
            } else {
                members.add(member.replaceAll("(int|long|boolean) \\w+(?=[,)])", "$1"));
            }
        }
        return members;
    }

    public static void main(String[] arguments) throws IOException, IllegalAccessException {
        if (!Files.exists(DOCUMENT)) {
            System.out.println("there is no document to look at");
            return;
        }
        String document = Files.readString(DOCUMENT);
        TreeMap<Integer, List<String>> named = named();
        for (int number = 1; number <= PROMISES; number++) {
            covered("promise " + number, promise(document, number), named.getOrDefault(number, List.of()));
        }
        due.holds("the face is " + shown(document) + ", not " + face(), shown(document).equals(face()));
        covered("terms", terms(document), named.getOrDefault(TERMS, List.of()));
        due.close();
    }
}
