import java.util.ArrayList;
import java.util.List;

/** Calls that bring to light all that an object holds. */
final class Probes {
    private static final int[] TWO = {0, 1};

    /** Those that change nothing, so that their order is free. */
    static final List<String> PLAIN = plain();
    /** Rows of those that change what they look at: each row is for an object of its own. */
    static final List<List<String>> ROWS = List.of(tape(), image(), wishes(), sheets(), beds(), day());
    private static final List<String> NAMES = allNames();

    private Probes() {
    }

    /** The names of all calls, in the order in which they are asked. */
    static List<String> names() {
        return NAMES;
    }

    private static List<String> allNames() {
        List<String> all = new ArrayList<>();
        PLAIN.forEach(call -> all.add(nameOf(call)));
        ROWS.forEach(row -> row.forEach(call -> all.add(nameOf(call))));
        return all;
    }

    private static String nameOf(String call) {
        return call.split(" ")[0];
    }

    private static int[] upTo(int n) {
        int[] numbers = new int[n];
        for (int i = 0; i < n; i++) {
            numbers[i] = i;
        }
        return numbers;
    }

    /** The call with every number of each row, one row for each argument. */
    private static void every(List<String> all, String call, int[]... rows) {
        if (rows.length == 0) {
            all.add(call);
            return;
        }
        int[][] rest = java.util.Arrays.copyOfRange(rows, 1, rows.length);
        for (int number : rows[0]) {
            every(all, call + " " + number, rest);
        }
    }

    private static List<String> plain() {
        List<String> all = new ArrayList<>();
        every(all, "count", upTo(13));
        every(all, "stepOf", upTo(20), upTo(6));
        every(all, "routeOf", upTo(6), new int[] {0, 1, 2, 3, 4, 5, 10, 11, 12, 13, 14, 15});
        every(all, "weather", upTo(24), upTo(3));
        every(all, "unknown", upTo(24), upTo(3));
        every(all, "takes", upTo(20), new int[] {0, 9}, new int[] {0, 48});
        every(all, "hour", upTo(6), new int[] {0, 9}, new int[] {0, 40});
        every(all, "late", upTo(6), new int[] {9}, new int[] {95});
        every(all, "way", new int[] {0, 2}, upTo(12), new int[] {9}, new int[] {0});
        every(all, "told", upTo(8), upTo(7));
        every(all, "list", upTo(8));
        every(all, "fault");
        for (String call : new String[] {"why", "pay", "asked"}) {
            every(all, call, upTo(6), new int[] {0, 50, 95}, new int[] {1, 9});
        }
        every(all, "turn", upTo(6), new int[] {0}, new int[] {1, 3}, TWO);
        every(all, "roping", upTo(31), new int[] {0});
        every(all, "roping", new int[] {0, 10}, new int[] {1, 10, 11, 12, 13, 14, 15, 16, 17, 18});
        every(all, "went", upTo(8), upTo(7));
        every(all, "stayed", upTo(12), upTo(3));
        every(all, "at", upTo(8), new int[] {0, 20, 50, 95});
        every(all, "near", upTo(12), new int[] {0, 50}, TWO);
        every(all, "grade", TWO, upTo(8), TWO);
        every(all, "over", upTo(14), TWO);
        every(all, "pieces");
        return all;
    }

    private static void statute(List<String> all) {
        every(all, "count", new int[] {4, 12});
        for (String call : new String[] {"why", "pay", "asked"}) {
            every(all, call, upTo(6), new int[] {0, 50}, new int[] {1, 9});
        }
    }

    /** What is on the tape, and how much room is behind it. */
    private static List<String> tape() {
        List<String> all = new ArrayList<>(List.of("text", "fault"));
        statute(all);
        return all;
    }

    private static List<String> image() {
        List<String> all = new ArrayList<>(List.of("back"));
        every(all, "told", upTo(8), new int[] {3, 4, 5, 6});
        every(all, "list", upTo(8));
        every(all, "count", new int[] {3, 8, 9, 10});
        return all;
    }

    private static List<String> wishes() {
        List<String> all = new ArrayList<>();
        every(all, "wish", upTo(9), upTo(9), new int[] {0});
        return all;
    }

    private static List<String> sheets() {
        List<String> all = new ArrayList<>();
        every(all, "lay", new int[] {3, 2, 1, 0}, upTo(24), new int[] {150});
        every(all, "weather", upTo(24), upTo(3));
        every(all, "tear", upTo(4));
        return all;
    }

    /** How many beds each place has, as far as a route ends there, or begins there: by a rope that turns at once. */
    private static List<String> beds() {
        List<String> all = new ArrayList<>();
        for (int i = 0; i < 8; i++) {
            all.add("unrope");
        }
        for (int k = 0; k < 3; k++) {
            every(all, "sheet", new int[] {k}, new int[] {k}, new int[] {24});
        }
        ropeOnEach(all);
        every(all, "end", new int[] {0});
        all.add("feed " + Texts.eight("back 1=1;", 0));
        all.add("feed " + Texts.eight("back 1=1;", 8));
        every(all, "text");
        ropeOnEach(all);
        return all;
    }

    private static void ropeOnEach(List<String> all) {
        for (int r = 0; r < 6; r++) {
            every(all, "rope", new int[] {r}, new int[] {9}, new int[] {0}, new int[] {9});
            every(all, "went", new int[] {0}, new int[] {0, 1, 4});
            every(all, "unrope");
        }
    }

    /** The day is taken on by one, where it can be. */
    private static List<String> day() {
        List<String> all = new ArrayList<>();
        every(all, "day", new int[] {0, 1, 2, 3, 4, 5, 6, 7, 8, 998, 999});
        every(all, "count", new int[] {9, 10, 11});
        every(all, "why", upTo(6), new int[] {0, 95}, new int[] {1});
        return all;
    }
}
