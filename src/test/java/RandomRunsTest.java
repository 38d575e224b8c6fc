import java.util.ArrayList;
import java.util.List;

/** Random runs of calls, always the same ones, answered by the class and by the model alike. */
public final class RandomRunsTest {
    private static final int RUNS = 1500;
    private static final int CALLS = 400;
    /** A text told takes at most this many calls. */
    private static final int A_TEXT = 34;
    private static final String[] SETUP = {
        "place 0..9", "step P P 0..4 1..9 0..5 B", "route S", "on R S", "guide 0..5 0..9 0..12", "person 0..9",
        "rope R 0..9 0..95 1..9", "entry R G 1..95", "wish X X -9..9", "tell", "sheet 0..3 0..2 -1..25", "lay 0..3 -1..24 V",
        "on R S", "on R S", "step P P 0..4 1..4 0..5 B", "wish X X -9..9",
    };
    private static final String[] LATER = {
        "stepOf S 0..5", "routeOf R 0..16", "tear 0..3", "weather 0..23 0..2", "unknown 0..23 0..2", "takes S 0..9 0..95",
        "hour R 0..9 0..95", "late R 0..9 0..95", "way P P 0..9 0..95", "papers G 0..12", "told G 0..6", "list G", "day 0..12",
        "feed L", "end 0..240", "text", "fault", "why R 0..95 1..9", "pay R 0..95 1..9", "asked R 0..95 1..9",
        "turn R 0..95 1..9 0..4", "go R 0..95 1..9", "roping 0..22 0..1", "roping 0..12 10..18", "unrope", "went C 0..6",
        "went C 0..6", "stayed P 0..2", "at C 0..95", "near P 0..95 0..1", "grade 0..1 0..7 0..1", "over E 0..1", "pieces",
        "give 1..100000", "share 1..255", "image", "back", "count 0..12", "told G 3..6", "list G", "went C 0..6", "at C 0..95",
        "go R 0..95 1..9", "give 1..40",
    };
    private static final int[] ODD = {-1, Integer.MIN_VALUE, Integer.MAX_VALUE, -2, 1000, 256, 31, 32, -100};

    private long state;
    private ValleyGuides guides;
    private Model model;
    private int calls;

    private RandomRunsTest(long seed) {
        state = seed;
    }

    private int pick(int least, int most) {
        state = state * 6364136223846793005L + 1442695040888963407L;
        long spread = (state >>> 33) % ((long) most - least + 1);
        return (int) (least + spread);
    }

    private int argument(String kind) {
        if (pick(0, 59) == 0) {
            return ODD[pick(0, ODD.length - 1)];
        }
        int dots = kind.indexOf("..");
        if (dots >= 0) {
            int least = Integer.parseInt(kind.substring(0, dots));
            int most = Integer.parseInt(kind.substring(dots + 2));
            int edge = pick(0, 29);
            return edge == 0 ? least - 1 : edge == 1 ? most + 1 : edge == 2 ? least : edge == 3 ? most : pick(least, most);
        }
        int counted = "PSRG?XCE".indexOf(kind);
        if (counted >= 0) {
            return pick(pick(0, 19) == 0 ? -1 : 0, Math.max(0, model.count(counted) - (pick(0, 9) == 0 ? 0 : 1)));
        }
        int size = pick(0, 9);
        return size == 0 ? 2000000000 : size < 3 ? pick(-40000, 40000) : size < 6 ? pick(0, 20100) : pick(-3, 70);
    }

    private String sum(int depth) {
        StringBuilder text = new StringBuilder(value(depth));
        for (int more = pick(0, 2); more > 0; more--) {
            text.append("+-*+-*".charAt(pick(0, 5))).append(value(depth));
        }
        return text.toString();
    }

    private String value(int depth) {
        String[] names = {"wind", "rain", "snow", "quarter", "grade", "people", "hard", "length", "day"};
        int kind = pick(0, 5);
        if (kind == 0 && depth < 7) {
            return "(" + sum(depth + 1) + ")";
        }
        return kind < 3 ? Integer.toString(pick(0, pick(0, 9) == 0 ? 10050 : 60)) : names[pick(0, names.length - 1)];
    }

    private String test() {
        StringBuilder text = new StringBuilder();
        for (int more = pick(0, 3) == 0 ? pick(1, 3) : 0; more >= 0; more--) {
            for (int nots = pick(0, 5) - 3; nots > 0; nots--) {
                text.append("not ");
            }
            text.append(sum(0)).append("<>=".charAt(pick(0, 2))).append(sum(0));
            text.append(more > 0 ? pick(0, 1) == 0 ? " or " : " and " : "");
        }
        return text.toString();
    }

    private String statute() {
        StringBuilder text = new StringBuilder();
        int most = pick(0, 9) == 0 ? 14 : 5;
        for (int lines = pick(0, most); lines > 0; lines--) {
            String[] kinds = {"bar ", "pay ", "ask ", "back ", "pay "};
            int kind = pick(0, 4);
            String inner = most == 14 ? kind % 3 == 0 ? "1<day" : "1" : kind % 3 == 0 ? test() : sum(0);
            text.append(kinds[kind]).append(inner).append(";");
        }
        for (int spoils = pick(0, 3) == 0 ? pick(1, 2) : 0; spoils > 0 && text.length() > 0; spoils--) {
            int at = pick(0, text.length() - 1);
            int how = pick(0, 2);
            if (how == 0) {
                text.deleteCharAt(at);
            } else if (how == 1) {
                text.insert(at, " ()+-*<>=;.a1~".charAt(pick(0, 13)));
            } else {
                text.setCharAt(at, (char) pick(32, 255));
            }
        }
        return text.length() > 240 ? text.substring(0, 240) : text.toString();
    }

    private void call(Due due, String spec, String run) {
        String[] words = spec.split(" ");
        if (words[0].equals("tell")) {
            String text = statute();
            List<Object> none = List.of();
            one(due, run, "end", List.of(0));
            for (int i = 0; i < text.length(); i += 8) {
                one(due, run, "feed", List.of(Texts.eight(text, i)));
            }
            one(due, run, "end", List.of(text.length()));
            one(due, run + " '" + text + "'", "text", none);
            one(due, run, "fault", none);
            return;
        }
        List<Object> arguments = new ArrayList<>();
        for (int i = 1; i < words.length; i++) {
            if (words[i].equals("B")) {
                arguments.add(pick(0, 2) == 0);
            } else if (words[i].equals("L")) {
                arguments.add(Texts.eight(statute() + "pay 1 ; ", 0));
            } else {
                arguments.add(argument(words[i]));
            }
        }
        one(due, run, words[0], arguments);
    }

    private void one(Due due, String run, String name, List<Object> arguments) {
        calls++;
        Calls.both(due, run, guides, model, name, arguments);
    }

    private void run(Due due, int number) {
        guides = new ValleyGuides();
        model = new Model();
        calls = 0;
        if (pick(0, 4) > 0) {
            for (int k = 0; k < 3; k++) {
                one(due, "run " + number, "sheet", List.of(k, k, 24));
            }
        }
        for (int i = 0; i < CALLS && calls <= Run.MOST_CALLS - A_TEXT; i++) {
            boolean early = i < 40 ? pick(0, 9) > 0 : pick(0, 3) == 0;
            String spec = early ? SETUP[pick(0, i < 8 ? 1 : SETUP.length - 1)] : LATER[pick(0, LATER.length - 1)];
            call(due, spec, "run " + number + " call " + i);
        }
    }

    public static void main(String[] arguments) {
        Due due = new Due();
        int runs = arguments.length > 0 ? Integer.parseInt(arguments[0]) : RUNS;
        long seed = arguments.length > 1 ? Long.parseLong(arguments[1]) : 1;
        RandomRunsTest test = new RandomRunsTest(seed);
        for (int run = 0; run < runs; run++) {
            test.run(due, run);
        }
        due.close();
    }
}
