import java.math.BigInteger;
import java.util.ArrayList;
import java.util.Arrays;
import java.util.Comparator;
import java.util.List;
import java.util.TreeMap;
import java.util.stream.Collectors;

/**
 * The document once more, told in another way: with the machine's own refusals for the weather, a tree for the
 * statute, every roping made and sorted, and fractions of big numbers. Random runs hold the class against it.
 */
public final class Model {
    private static final int BAD = -1, STATE = -2, FULL = -3, NONE = -4, BARRED = -5;

    private record Step(int from, int to, int sort, int length, int hard, boolean narrow) { }

    private final List<Integer> beds = new ArrayList<>();
    private final List<Step> steps = new ArrayList<>();
    private final List<List<Integer>> routes = new ArrayList<>();
    private final Object[] sheets = new Object[4];

    private static boolean out(long v, long least, long most) {
        return v < least || v > most;
    }

    // ---- the net

    public int place(int b) {
        if (out(b, 0, 9)) return BAD;
        if (beds.size() == 12) return FULL;
        beds.add(b);
        return beds.size() - 1;
    }

    public int step(int from, int to, int sort, int length, int hard, boolean narrow) {
        if (noPlace(from) || noPlace(to) || from == to || out(sort, 0, 4) || out(length, 1, 9) || out(hard, 0, 5)) return BAD;
        if (steps.size() == 20) return FULL;
        steps.add(new Step(from, to, sort, length, hard, narrow));
        return steps.size() - 1;
    }

    private boolean noPlace(int p) { return out(p, 0, beds.size() - 1); }
    private boolean noStep(int k) { return out(k, 0, steps.size() - 1); }
    private boolean noRoute(int r) { return out(r, 0, routes.size() - 1); }

    public int stepOf(int k, int what) {
        if (noStep(k) || out(what, 0, 5)) return BAD;
        Step s = steps.get(k);
        return new int[] {s.from, s.to, s.sort, s.length, s.hard, s.narrow ? 1 : 0}[what];
    }

    public int route(int step) {
        if (noStep(step)) return BAD;
        if (routes.size() == 6) return FULL;
        routes.add(new ArrayList<>(List.of(step)));
        return routes.size() - 1;
    }

    public int on(int route, int step) {
        if (noRoute(route) || noStep(step)) return BAD;
        List<Integer> r = routes.get(route);
        if (steps.get(r.get(r.size() - 1)).to != steps.get(step).from) return STATE;
        if (r.size() == 6) return FULL;
        r.add(step);
        return r.size();
    }

    private List<Step> stepsOf(int r) {
        return routes.get(r).stream().map(steps::get).collect(Collectors.toList());
    }

    public int routeOf(int r, int what) {
        if (noRoute(r)) return BAD;
        List<Step> row = stepsOf(r);
        if (what == 0) return row.size();
        if (what == 1) return row.get(0).from;
        if (what == 2) return row.get(row.size() - 1).to;
        if (what == 3) return row.stream().mapToInt(Step::hard).max().getAsInt();
        if (what == 4) return row.stream().mapToInt(Step::hard).sum();
        if (what == 5) return row.stream().mapToInt(Step::length).sum();
        return out(what, 10, 9 + row.size()) ? BAD : routes.get(r).get(what - 10);
    }

    // ---- weather

    public int sheet(int k, int lane, int n) {
        if (out(k, 0, 3) || out(lane, 0, 2) || n > 24) return BAD;
        try {
            sheets[k] = lane == 0 ? new float[n] : lane == 1 ? (Object) new short[n] : new byte[n];
            return 1;
        } catch (NegativeArraySizeException refused) {
            return -14;
        }
    }

    public int lay(int k, int i, int v) {
        if (out(k, 0, 3)) return BAD;
        Object row = sheets[k];
        try {
            if (row == null) return -11;
            if (row instanceof float[] floats) floats[i] = v == 2000000000 ? Float.NaN : v / 100f;
            if (row instanceof short[] shorts) shorts[i] = (short) v;
            if (row instanceof byte[] bytes) bytes[i] = (byte) v;
            return 1;
        } catch (ArrayIndexOutOfBoundsException refused) {
            return -12;
        }
    }

    public int tear(int k) {
        if (out(k, 0, 3)) return BAD;
        int was = sheets[k] == null ? 0 : 1;
        sheets[k] = null;
        return was;
    }

    /** The value, or -100 less the fault. */
    private int read(int hour, int what) {
        try {
            if (what == 0) {
                float f = ((float[]) sheets[0])[hour];
                return Float.isNaN(f) ? 200 : Math.max(0, Math.min(200, (int) f));
            }
            int v = what == 1 ? ((short[]) sheets[1])[hour] : ((byte[]) sheets[2])[hour];
            return Math.max(0, Math.min(99, v));
        } catch (NullPointerException e) {
            return -101;
        } catch (ArrayIndexOutOfBoundsException e) {
            return -102;
        } catch (ClassCastException e) {
            return -103;
        }
    }

    public int weather(int hour, int what) {
        if (out(hour, 0, 23) || out(what, 0, 2)) return BAD;
        int v = read(hour, what);
        return v >= 0 ? v : what == 0 ? 200 : 99;
    }

    public int unknown(int hour, int what) {
        if (out(hour, 0, 23) || out(what, 0, 2)) return BAD;
        return Math.max(0, -100 - read(hour, what));
    }

    public int takes(int step, int strength, int quarter) {
        if (noStep(step) || out(strength, 0, 9) || out(quarter, 0, 95)) return BAD;
        Step s = steps.get(step);
        int h = Math.floorDiv(quarter, 4);
        int time = s.length + Math.floorDiv(9 - strength, 3);
        if ((s.sort == 1 || s.sort == 3) && quarter >= 48) time += time;
        if (s.sort == 2 || s.sort == 4) {
            int more = Math.floorDiv(s.hard * (10 - strength), 4);
            time += more;
            if (weather(h, 1) > 0) time += more;
        }
        if (s.sort == 3) {
            if (weather(h, 2) + 2 * s.hard > 60) return BARRED;
            time += Math.floorDiv(weather(h, 2), 10);
        }
        if (s.sort == 4) {
            if (weather(h, 0) > 100 - 10 * s.hard) return BARRED;
            time += Math.floorDiv(weather(h, 0), 40);
        }
        return time;
    }

    public int hour(int route, int strength, int quarter) {
        if (noRoute(route) || out(strength, 0, 9) || out(quarter, 0, 95)) return BAD;
        int q = quarter;
        int i = 0;
        for (int k : routes.get(route)) {
            if (q > 95 || takes(k, strength, q) == BARRED) return -100 - i;
            q += takes(k, strength, q);
            i++;
        }
        return q;
    }

    public int late(int route, int strength, int end) {
        if (noRoute(route) || out(strength, 0, 9) || out(end, 0, 95)) return BAD;
        int last = NONE;
        for (int q = 0; q < 96; q++) {
            int e = hour(route, strength, q);
            if (e >= 0 && e <= end) last = q;
        }
        return last;
    }

    public int way(int from, int to, int strength, int quarter) {
        if (noPlace(from) || noPlace(to) || out(strength, 0, 9) || out(quarter, 0, 95)) return BAD;
        // Quarter by quarter: who can first be at a place in it leaves it in it.
        TreeMap<Integer, List<Integer>> coming = new TreeMap<>();
        coming.put(quarter, new ArrayList<>(List.of(from)));
        boolean[] been = new boolean[12];
        for (int q = quarter; q < 96; q++) {
            for (int p : coming.getOrDefault(q, List.of())) {
                if (been[p]) continue;
                been[p] = true;
                if (p == to) return q;
                for (int k = 0; k < steps.size(); k++) {
                    int t = steps.get(k).from == p ? takes(k, strength, q) : BARRED;
                    if (t > 0) coming.computeIfAbsent(q + t, any -> new ArrayList<>()).add(steps.get(k).to);
                }
            }
        }
        return NONE;
    }

    // ---- guides

    private static final class Guide {
        int grade, strength, papers, paid, shared;
        boolean out;
        int number;
    }

    private final List<Guide> guides = new ArrayList<>();
    private List<Integer> list = new ArrayList<>();
    private int day = 0;
    private int purse = 0;

    private boolean noGuide(int g) { return out(g, 0, guides.size() - 1); }

    public int guide(int grade, int strength, int papers) {
        if (out(grade, 0, 5) || out(strength, 0, 9) || out(papers, 0, 999)) return BAD;
        if (guides.size() == 8) return FULL;
        Guide g = new Guide();
        g.grade = grade;
        g.strength = strength;
        g.papers = papers;
        g.number = guides.size();
        guides.add(g);
        list.add(g.number);
        return g.number;
    }

    public int papers(int g, int to) {
        if (noGuide(g) || out(to, 0, 999)) return BAD;
        int was = guides.get(g).papers;
        guides.get(g).papers = to;
        return was;
    }

    public int told(int g, int what) {
        if (noGuide(g) || out(what, 0, 6)) return BAD;
        Guide x = guides.get(g);
        return new int[] {x.grade, x.strength, x.papers, list.indexOf(g), x.out ? 1 : 0, x.paid, x.shared}[what];
    }

    public int list(int i) {
        return noGuide(i) ? BAD : list.get(i);
    }

    public int day(int d) {
        if (out(d, day, 999)) return BAD;
        int was = day;
        day = d;
        guides.forEach(g -> g.out = false);
        return was;
    }

    // ---- the statute

    private StringBuilder tape = new StringBuilder();
    private int fault = 0;

    public int feed(long v) {
        if (tape.length() + 8 > 240) return FULL;
        for (byte b : java.nio.ByteBuffer.allocate(8).putLong(v).array()) tape.append((char) (b & 255));
        return tape.length();
    }

    public int end(int n) {
        if (out(n, 0, tape.length())) return BAD;
        int was = tape.length();
        tape.setLength(n);
        return was;
    }

    private interface Node { long value(long[] variables); }

    private static final class Fault extends RuntimeException {
        private static final long serialVersionUID = 1;
        final int place, number;
        Fault(int place, int number) { this.place = place; this.number = number; }
    }

    private record Line(String kind, Node node) { }

    private static final List<String> VARIABLES =
            List.of("wind", "rain", "snow", "quarter", "grade", "people", "hard", "length", "day");
    private static final List<String> WORDS = List.of("bar", "pay", "ask", "back", "or", "and", "not");

    private List<Line> statute = new ArrayList<>();

    public int text() {
        String text = tape.toString();
        tape = new StringBuilder();
        try {
            statute = new Parser(text).text();
            fault = 0;
            return statute.size();
        } catch (Fault f) {
            fault = f.number;
            return -10 - f.place;
        }
    }

    public int fault() { return fault; }

    private static long cut(long v) { return Math.max(-1000000, Math.min(1000000, v)); }

    private static final class Parser {
        final String text;
        int at = 0, start = 0, open = 0;
        String token;

        Parser(String text) { this.text = text; read(); }

        void read() {
            while (at < text.length() && text.charAt(at) == ' ') at++;
            start = at;
            if (at == text.length()) { token = ""; return; }
            char c = text.charAt(at);
            java.util.regex.Matcher m = java.util.regex.Pattern.compile("[a-z]+|[0-9]+|[-()+*<>=;]").matcher(text);
            m.region(at, text.length());
            if (!m.lookingAt()) throw new Fault(start, 1);
            token = m.group();
            boolean name = c >= 'a' && c <= 'z';
            if (name && !VARIABLES.contains(token) && !WORDS.contains(token)) throw new Fault(start, 1);
            if (c >= '0' && c <= '9' && token.length() > 4) throw new Fault(start, 1);
            at = m.end();
        }

        boolean taken(String want) {
            if (!token.equals(want)) return false;
            read();
            return true;
        }

        void need(String want) {
            if (!taken(want)) throw new Fault(start, 2);
        }

        List<Line> text() {
            List<Line> lines = new ArrayList<>();
            while (!token.isEmpty()) {
                String kind = token;
                if (!List.of("bar", "pay", "ask", "back").contains(kind)) throw new Fault(start, 2);
                if (lines.size() == 12) throw new Fault(start, 4);
                read();
                lines.add(new Line(kind, kind.equals("bar") || kind.equals("back") ? test() : sum()));
                need(";");
            }
            return lines;
        }

        Node test() {
            List<Node> parts = new ArrayList<>(List.of(part()));
            while (taken("or")) parts.add(part());
            return v -> parts.stream().anyMatch(p -> p.value(v) == 1) ? 1 : 0;
        }

        Node part() {
            List<Node> ones = new ArrayList<>(List.of(one()));
            while (taken("and")) ones.add(one());
            return v -> ones.stream().allMatch(p -> p.value(v) == 1) ? 1 : 0;
        }

        Node one() {
            if (taken("not")) {
                Node n = one();
                return v -> 1 - n.value(v);
            }
            Node left = sum();
            String sign = token;
            if (!List.of("<", ">", "=").contains(sign)) throw new Fault(start, 2);
            read();
            Node right = sum();
            return v -> {
                int c = Long.compare(left.value(v), right.value(v));
                return (sign.equals("<") ? c < 0 : sign.equals(">") ? c > 0 : c == 0) ? 1 : 0;
            };
        }

        Node sum() {
            Node all = product();
            while (token.equals("+") || token.equals("-")) {
                int sign = token.equals("+") ? 1 : -1;
                read();
                Node a = all, b = product();
                all = v -> cut(a.value(v) + sign * b.value(v));
            }
            return all;
        }

        Node product() {
            Node all = value();
            while (taken("*")) {
                Node a = all, b = value();
                all = v -> cut(a.value(v) * b.value(v));
            }
            return all;
        }

        Node value() {
            if (token.equals("(")) {
                if (open == 6) throw new Fault(start, 3);
                open++;
                read();
                Node n = sum();
                if (!token.equals(")")) throw new Fault(start, 2);
                open--;
                read();
                return n;
            }
            int variable = VARIABLES.indexOf(token);
            if (variable >= 0) {
                read();
                return v -> v[variable];
            }
            if (token.matches("[0-9]+")) {
                long n = Long.parseLong(token);
                read();
                return v -> n;
            }
            throw new Fault(start, 2);
        }
    }

    private long[] variables(int route, int quarter, int people) {
        int h = quarter / 4;
        return new long[] {weather(h, 0), weather(h, 1), weather(h, 2), quarter, routeOf(route, 3), people,
            routeOf(route, 4), routeOf(route, 5), day};
    }

    private boolean noCase(int route, int quarter, int people) {
        return noRoute(route) || out(quarter, 0, 95) || out(people, 1, 9);
    }

    private long[] values(String kind, int route, int quarter, int people) {
        long[] v = variables(route, quarter, people);
        return statute.stream().filter(l -> l.kind.equals(kind)).mapToLong(l -> l.node.value(v)).toArray();
    }

    public int why(int route, int quarter, int people) {
        if (noCase(route, quarter, people)) return BAD;
        long[] v = variables(route, quarter, people);
        for (Line l : statute) {
            if (l.kind.equals("bar") && l.node.value(v) == 1) return statute.indexOf(l);
        }
        return NONE;
    }

    public int pay(int route, int quarter, int people) {
        if (noCase(route, quarter, people)) return BAD;
        return (int) Math.max(0, Math.min(1000000, Arrays.stream(values("pay", route, quarter, people)).sum()));
    }

    public int asked(int route, int quarter, int people) {
        if (noCase(route, quarter, people)) return BAD;
        return (int) Math.max(1, Math.min(8, Arrays.stream(values("ask", route, quarter, people)).max().orElse(1)));
    }

    private List<Integer> turnOf(int route, int quarter, int people) {
        int grade = routeOf(route, 3);
        return list.stream().map(guides::get).filter(g -> !g.out && g.papers >= day && g.grade >= grade)
            .limit(asked(route, quarter, people)).map(g -> g.number).collect(Collectors.toList());
    }

    public int turn(int route, int quarter, int people, int i) {
        if (noCase(route, quarter, people) || i < 0) return BAD;
        List<Integer> turn = turnOf(route, quarter, people);
        if (why(route, quarter, people) >= 0 || turn.size() < asked(route, quarter, people) || i >= turn.size()) return NONE;
        return turn.get(i);
    }

    public int go(int route, int quarter, int people) {
        if (noCase(route, quarter, people)) return BAD;
        if (why(route, quarter, people) >= 0) return STATE;
        List<Integer> turn = turnOf(route, quarter, people);
        if (turn.size() < asked(route, quarter, people)) return NONE;
        int part = pay(route, quarter, people) / turn.size();
        for (int g : turn) {
            guides.get(g).out = true;
            guides.get(g).paid += part - part / 10;
            purse += part / 10;
        }
        list.removeAll(turn);
        list.addAll(turn);
        return turn.size();
    }

    // ---- strangers

    private final List<Integer> people = new ArrayList<>();
    private final int[][] wishes = new int[9][9];

    public int person(int strength) {
        if (out(strength, 0, 9)) return BAD;
        if (people.size() == 9) return FULL;
        people.add(strength);
        return people.size() - 1;
    }

    public int wish(int a, int b, int v) {
        int n = people.size() - 1;
        if (out(a, 0, n) || out(b, 0, n) || a == b || out(v, -9, 9)) return -100;
        int was = wishes[a][b];
        wishes[a][b] = v;
        return was;
    }

    private void ropings(int left, int least, List<Integer> sofar, List<List<Integer>> all) {
        if (left == 0) {
            all.add(new ArrayList<>(sofar));
            return;
        }
        for (int rope = 1; rope <= left; rope++) {
            if ((rope & ~left) != 0 || (rope & Integer.lowestOneBit(left)) == 0) continue;
            int heads = Integer.bitCount(rope);
            if (heads < 2 || heads > 3) continue;
            int strength = 0;
            for (int p = 0; p < people.size(); p++) if ((rope >> p & 1) == 1) strength += people.get(p);
            if (strength < least) continue;
            sofar.add(rope);
            ropings(left & ~rope, least, sofar, all);
            sofar.remove(sofar.size() - 1);
        }
    }

    private int worth(List<Integer> roping) {
        int sum = 0;
        for (int rope : roping) {
            for (int a = 0; a < 9; a++) {
                for (int b = 0; b < 9; b++) {
                    if ((rope >> a & 1) == 1 && (rope >> b & 1) == 1) sum += wishes[a][b];
                }
            }
        }
        return sum;
    }

    public int roping(int least, int what) {
        if (out(least, 0, 30) || (out(what, 0, 1) && out(what, 10, 9 + people.size()))) return -1000;
        List<List<Integer>> all = new ArrayList<>();
        ropings((1 << people.size()) - 1, least, new ArrayList<>(), all);
        if (all.isEmpty()) return -1004;
        List<Integer> best = all.stream().min(Comparator.<List<Integer>>comparingInt(r -> -worth(r))
            .thenComparing((a, b) -> {
                for (int i = 0; i < Math.min(a.size(), b.size()); i++) {
                    if (!a.get(i).equals(b.get(i))) return a.get(i) - b.get(i);
                }
                return 0;
            })).get();
        if (what == 0) return worth(best);
        if (what == 1) return best.size();
        return best.stream().filter(r -> (r >> (what - 10) & 1) == 1).findFirst().get();
    }

    // ---- a day

    private static final class Rope {
        final int number, route, strength, start, people;
        int came, at, on, until, behind, done, waited, bedded;
        boolean turned;
        int[] seen;
        Rope(int number, int route, int strength, int start, int people) {
            this.number = number;
            this.route = route;
            this.strength = strength;
            this.start = start;
            this.people = people;
        }
    }

    private final List<Rope> ropes = new ArrayList<>();
    private int[] taken, lie, comes;

    private boolean noRope(int r) { return out(r, 0, ropes.size() - 1); }

    public int rope(int route, int strength, int start, int heads) {
        if (noRoute(route) || out(strength, 0, 9) || out(start, 0, 95) || out(heads, 1, 9)) return BAD;
        if (ropes.size() == 8) return FULL;
        ropes.add(new Rope(ropes.size(), route, strength, start, heads));
        return ropes.size() - 1;
    }

    public int unrope() {
        if (ropes.isEmpty()) return NONE;
        ropes.remove(ropes.size() - 1);
        return ropes.size();
    }

    private void done(Rope r, int q) {
        r.done = q;
        for (int head = 0; head < r.people; head++) {
            if (taken[r.at] < beds.get(r.at)) {
                taken[r.at]++;
                r.bedded++;
            } else {
                lie[r.at]++;
            }
        }
    }

    private void run() {
        taken = new int[12];
        lie = new int[12];
        comes = new int[12];
        for (Rope r : ropes) {
            r.came = r.at = r.on = r.until = r.done = -1;
            r.behind = r.waited = r.bedded = 0;
            r.turned = false;
            r.seen = new int[96];
        }
        for (int q = 0; q < 96; q++) {
            final int now = q;
            for (Rope r : ropes) {
                if (r.start == q || (r.on >= 0 && r.until == q)) {
                    if (r.on >= 0) r.behind++;
                    r.at = r.on < 0 ? routeOf(r.route, 1) : steps.get(r.on).to;
                    r.on = -1;
                    r.came = q;
                    comes[r.at]++;
                }
            }
            List<Rope> here = ropes.stream().filter(r -> r.came >= 0 && r.on < 0 && r.done < 0)
                .sorted(Comparator.<Rope>comparingInt(r -> r.came).thenComparingInt(r -> r.number)).toList();
            for (Rope r : here) {
                if (r.behind == routes.get(r.route).size()) {
                    done(r, q);
                    continue;
                }
                int k = routes.get(r.route).get(r.behind);
                long[] v = variables(r.route, q, r.people);
                boolean back = statute.stream().anyMatch(l -> l.kind.equals("back") && l.node.value(v) == 1);
                if (back || takes(k, r.strength, q) == BARRED) {
                    r.turned = true;
                    done(r, q);
                } else if (steps.get(k).narrow && ropes.stream().anyMatch(o -> o.on == k)) {
                    r.waited++;
                } else {
                    r.on = k;
                    r.until = q + takes(k, r.strength, q);
                }
            }
            for (Rope r : ropes) r.seen[now] = r.came < 0 ? NONE : r.on >= 0 ? 100 + r.on : r.at;
        }
    }

    public int went(int rope, int what) {
        if (noRope(rope) || out(what, 0, 6)) return BAD;
        run();
        Rope r = ropes.get(rope);
        boolean lost = r.done < 0;
        return new int[] {lost ? -5 : r.at, lost ? -5 : r.done, r.turned ? 1 : 0, r.waited, r.bedded, r.behind, r.at}[what];
    }

    public int stayed(int place, int what) {
        if (noPlace(place) || out(what, 0, 2)) return BAD;
        run();
        return (what == 0 ? taken : what == 1 ? lie : comes)[place];
    }

    public int at(int rope, int quarter) {
        if (noRope(rope) || out(quarter, 0, 95)) return BAD;
        run();
        return ropes.get(rope).seen[quarter];
    }

    public int near(int place, int quarter, int what) {
        if (noPlace(place) || out(quarter, 0, 95) || out(what, 0, 1)) return BAD;
        run();
        List<int[]> all = new ArrayList<>();
        for (Guide g : guides) {
            if (!g.out) all.add(new int[] {way(0, place, g.strength, quarter), g.number});
        }
        for (Rope r : ropes) {
            int from = r.seen[quarter];
            if (from >= 0 && from < 100) all.add(new int[] {way(from, place, r.strength, quarter), 100 + r.number});
        }
        return all.stream().filter(a -> a[0] >= 0)
            .min(Comparator.<int[]>comparingInt(a -> a[0]).thenComparingInt(a -> a[1])).map(a -> a[what]).orElse(NONE);
    }

    // ---- hours

    private final List<int[]> entries = new ArrayList<>();

    public int entry(int route, int guide, int quarters) {
        if (noRoute(route) || noGuide(guide) || out(quarters, 1, 95)) return BAD;
        if (entries.size() == 14) return FULL;
        entries.add(new int[] {route, guide, quarters});
        return entries.size() - 1;
    }

    private record Fraction(BigInteger n, BigInteger d) {
        static Fraction of(long v) { return new Fraction(BigInteger.valueOf(v), BigInteger.ONE); }
        Fraction low() {
            BigInteger g = n.gcd(d);
            if (d.signum() < 0) g = g.negate();
            return new Fraction(n.divide(g), d.divide(g));
        }
        Fraction minus(Fraction o) { return new Fraction(n.multiply(o.d).subtract(o.n.multiply(d)), d.multiply(o.d)).low(); }
        Fraction times(Fraction o) { return new Fraction(n.multiply(o.n), d.multiply(o.d)).low(); }
        Fraction by(Fraction o) { return new Fraction(n.multiply(o.d), d.multiply(o.n)).low(); }
        boolean zero() { return n.signum() == 0; }
    }

    /** The piece of each node (routes, then guides): the least guide, or -1. */
    private int[] parts() {
        int[] part = new int[14];
        Arrays.fill(part, -1);
        for (int g = 0; g < 8; g++) {
            if (part[6 + g] < 0) reach(6 + g, g, part);
        }
        return part;
    }

    private void reach(int node, int mark, int[] part) {
        if (part[node] >= 0) return;
        for (int[] e : entries) {
            if (e[0] == node || 6 + e[1] == node) {
                part[node] = mark;
                reach(e[0], mark, part);
                reach(6 + e[1], mark, part);
            }
        }
    }

    /** Gauss with fractions over all 14 nodes: a node that is not sought is set to 0 by a row of its own. */
    private Fraction[] grades() {
        int[] part = parts();
        Fraction[][] m = new Fraction[14][15];
        for (Fraction[] row : m) Arrays.fill(row, Fraction.of(0));
        for (int i = 0; i < 14; i++) {
            if (part[i] < 0 || part[i] == i - 6) {
                m[i][i] = Fraction.of(1);
                continue;
            }
            for (int[] e : entries) {
                int a = e[0], b = 6 + e[1];
                if (a != i && b != i) continue;
                m[i][a] = m[i][a].minus(Fraction.of(-1));
                m[i][b] = m[i][b].minus(Fraction.of(-1));
                m[i][14] = m[i][14].minus(Fraction.of(-e[2]));
            }
        }
        for (int c = 0; c < 14; c++) {
            int p = c;
            while (m[p][c].zero()) p++;
            Fraction[] swap = m[p];
            m[p] = m[c];
            m[c] = swap;
            Fraction pivot = m[c][c];
            for (int j = 0; j < 15; j++) m[c][j] = m[c][j].by(pivot);
            for (int i = 0; i < 14; i++) {
                Fraction f = m[i][c];
                if (i == c || f.zero()) continue;
                for (int j = 0; j < 15; j++) m[i][j] = m[i][j].minus(f.times(m[c][j]));
            }
        }
        Fraction[] all = new Fraction[14];
        for (int i = 0; i < 14; i++) all[i] = m[i][14];
        return all;
    }

    public long grade(int sort, int k, int what) {
        if (out(sort, 0, 1) || out(what, 0, 1) || (sort == 0 ? noRoute(k) : noGuide(k))) return -1000000000000L;
        int node = sort == 0 ? k : 6 + k;
        if (parts()[node] < 0) return -1000000000004L;
        Fraction f = grades()[node].low();
        return (what == 0 ? f.n : f.d).longValueExact();
    }

    public long over(int entry, int what) {
        if (out(entry, 0, entries.size() - 1) || out(what, 0, 1)) return -1000000000000L;
        int[] e = entries.get(entry);
        Fraction[] all = grades();
        Fraction f = Fraction.of(e[2]).minus(all[e[0]]).minus(all[6 + e[1]]).low();
        return (what == 0 ? f.n : f.d).longValueExact();
    }

    public int pieces() {
        return (int) Arrays.stream(parts()).filter(p -> p >= 0).distinct().count();
    }

    // ---- the purse, images

    public int give(int pence) {
        if (out(pence, 1, 100000)) return BAD;
        if (purse + pence > 1000000000) return FULL;
        purse += pence;
        return purse;
    }

    public int share(int some) {
        if (out(some, 1, (1 << guides.size()) - 1)) return BAD;
        int each = purse / Integer.bitCount(some);
        if (each == 0) return STATE;
        for (Guide g : guides) {
            if ((some >> g.number & 1) == 1) {
                g.shared += each;
                purse -= each;
            }
        }
        return each;
    }

    private int[] image = null;
    private List<Integer> imageList;

    public int image() {
        image = new int[2 + 3 * guides.size()];
        image[0] = day;
        image[1] = purse;
        for (Guide g : guides) {
            image[2 + 3 * g.number] = g.out ? 1 : 0;
            image[3 + 3 * g.number] = g.paid;
            image[4 + 3 * g.number] = g.shared;
        }
        imageList = new ArrayList<>(list);
        return 1;
    }

    public int back() {
        if (image == null) return NONE;
        day = image[0];
        purse = image[1];
        list = new ArrayList<>(imageList);
        for (Guide g : guides) {
            boolean kept = g.number < imageList.size();
            g.out = kept && image[2 + 3 * g.number] == 1;
            g.paid = kept ? image[3 + 3 * g.number] : 0;
            g.shared = kept ? image[4 + 3 * g.number] : 0;
            if (!kept) list.add(g.number);
        }
        return imageList.size();
    }

    public int count(int what) {
        if (out(what, 0, 12)) return BAD;
        if (what == 11) run();
        return new int[] {beds.size(), steps.size(), routes.size(), guides.size(), statute.size(), people.size(), ropes.size(),
            entries.size(), purse, day, (int) guides.stream().filter(g -> g.out).count(),
            (int) ropes.stream().filter(r -> r.turned).count(), tape.length()}[what];
    }
}
