import java.io.IOException;
import java.lang.reflect.Constructor;
import java.lang.reflect.Field;
import java.lang.reflect.Method;
import java.lang.reflect.Modifier;
import java.nio.file.Files;
import java.nio.file.Path;
import java.util.ArrayList;
import java.util.List;
import java.util.TreeSet;

/** The face of the class, and the rules of LANGUAGE.md that can be seen from outside or by a word. */
public final class FaceTest {
    private static final Path SOURCE = Path.of("src/main/java/ValleyGuides.java");
    private static final int MOST_FIELDS = 20;
    private static final String[] FACE = {
        "int place(int)", "int step(int,int,int,int,int,boolean)", "int stepOf(int,int)", "int route(int)", "int on(int,int)",
        "int routeOf(int,int)", "int sheet(int,int,int)", "int lay(int,int,int)", "int tear(int)", "int weather(int,int)",
        "int unknown(int,int)", "int takes(int,int,int)", "int hour(int,int,int)", "int late(int,int,int)",
        "int way(int,int,int,int)", "int guide(int,int,int)", "int papers(int,int)", "int told(int,int)", "int list(int)",
        "int day(int)", "int feed(long)", "int end(int)", "int text()", "int fault()", "int why(int,int,int)",
        "int pay(int,int,int)", "int asked(int,int,int)", "int turn(int,int,int,int)", "int go(int,int,int)", "int person(int)",
        "int wish(int,int,int)", "int roping(int,int)", "int rope(int,int,int,int)", "int unrope()", "int went(int,int)",
        "int stayed(int,int)", "int at(int,int)", "int near(int,int,int)", "int entry(int,int,int)", "long grade(int,int,int)",
        "long over(int,int)", "int pieces()", "int give(int)", "int share(int)", "int image()", "int back()", "int count(int)",
    };
    private static final String[] NOT_ALLOWED = {"throw", "throws", "try", "catch", "synchronized", "assert", "import", "package",
        "double", "Object", "hashCode", "toString"};

    private static final Due due = new Due();

    private static void face() {
        due.promise("rule 1");
        TreeSet<String> want = new TreeSet<>(List.of(FACE));
        TreeSet<String> got = new TreeSet<>();
        for (Method method : ValleyGuides.class.getDeclaredMethods()) {
            if (Modifier.isPrivate(method.getModifiers())) {
                continue;
            }
            StringBuilder text = new StringBuilder(method.getReturnType() + " " + method.getName() + "(");
            for (Class<?> parameter : method.getParameterTypes()) {
                text.append(text.charAt(text.length() - 1) == '(' ? "" : ",").append(parameter);
            }
            got.add(text.append(")").toString());
            due.holds(method + " is public", Modifier.isPublic(method.getModifiers()));
        }
        due.holds("the methods are " + want + ", not " + got, want.equals(got));
        int constants = 0;
        for (Field field : ValleyGuides.class.getDeclaredFields()) {
            if (!Modifier.isPrivate(field.getModifiers())) {
                constants++;
                due.holds(field + " is of the face", List.of("BAD", "STATE", "FULL", "NONE", "BARRED").contains(field.getName()));
            }
        }
        due.is("constants", constants, 5);
        due.is("constructors", ValleyGuides.class.getDeclaredConstructors().length, 1);
        for (Constructor<?> constructor : ValleyGuides.class.getDeclaredConstructors()) {
            due.is("parameters of a constructor", constructor.getParameterCount(), 0);
        }
        due.holds("final", Modifier.isFinal(ValleyGuides.class.getModifiers()));
    }

    private static void inside() {
        List<String> names = new ArrayList<>();
        for (Method method : ValleyGuides.class.getDeclaredMethods()) {
            if (Modifier.isPublic(method.getModifiers())) {
                names.add(method.getName());
            }
        }
        List<Class<?>> all = new ArrayList<>(List.of(ValleyGuides.class.getDeclaredClasses()));
        due.promise("rule 11");
        due.holds("at most twelve classes", all.size() + 1 <= 12);
        all.add(ValleyGuides.class);
        for (Class<?> inside : all) {
            due.promise("rule 2");
            boolean outer = inside == ValleyGuides.class;
            due.holds(inside + " is static", outer || Modifier.isStatic(inside.getModifiers()));
            due.holds(inside + " is not public", outer || !Modifier.isPublic(inside.getModifiers()));
            int fields = 0;
            for (Field field : inside.getDeclaredFields()) {
                due.promise("rule 5");
                boolean fixed = Modifier.isStatic(field.getModifiers());
                due.holds(field + " is final", !fixed || Modifier.isFinal(field.getModifiers()));
                fields += fixed ? 0 : 1;
            }
            due.promise("rule 11");
            due.holds(inside + " has at most twenty fields", fields <= MOST_FIELDS);
            for (Method method : inside.getDeclaredMethods()) {
                due.holds(method + " takes at most seven", method.getParameterCount() <= 7);
                due.promise("rule 1");
                due.holds(method + " bears no public name", outer && Modifier.isPublic(method.getModifiers())
                    || !names.contains(method.getName()));
            }
        }
    }

    /** The source without its comments and texts. */
    private static String code() throws IOException {
        String source = Files.readString(SOURCE);
        return source.replaceAll("(?s)/\\*.*?\\*/", " ").replaceAll("//[^\n]*", " ").replaceAll("\"[^\"\n]*\"", "\"\"");
    }

    private static void words() throws IOException {
        String code = code();
        due.promise("LANGUAGE.md");
        for (String word : NOT_ALLOWED) {
            due.holds("no " + word, !code.matches("(?s).*\\b" + word + "\\b.*"));
        }
        due.holds("no lambda, no method reference", !code.contains("->") && !code.contains("::"));
        due.promise("rule 12");
        for (String line : code.split("\n")) {
            boolean made = line.matches(".*\\bnew\\b.*");
            due.holds("made once: " + line, !made || line.contains(" final ") || line.contains("ropes[r] = new Rope()"));
        }
    }

    public static void main(String[] arguments) throws IOException {
        face();
        inside();
        words();
        due.close();
    }
}
