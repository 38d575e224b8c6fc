/** Promises 40 to 43: entries and the grades that fit them best. */
public final class HoursTest {
    private static final long BAD = -1000000000000L;
    private static final long NONE = -1000000000004L;
    private static final Due due = new Due();

    private static ValleyGuides with(int routes, int guides) {
        ValleyGuides g = new ValleyGuides();
        g.place(0);
        g.place(0);
        g.step(0, 1, 0, 1, 0, false);
        for (int i = 0; i < routes; i++) {
            g.route(0);
        }
        for (int i = 0; i < guides; i++) {
            g.guide(0, 0, 0);
        }
        return g;
    }

    private static void grade(String when, ValleyGuides g, int sort, int k, long top, long bottom) {
        due.is(when + ": grade(" + sort + ", " + k + ", 0)", g.grade(sort, k, 0), top);
        due.is(when + ": grade(" + sort + ", " + k + ", 1)", g.grade(sort, k, 1), bottom);
    }

    private static void over(String when, ValleyGuides g, int entry, long top, long bottom) {
        due.is(when + ": over(" + entry + ", 0)", g.over(entry, 0), top);
        due.is(when + ": over(" + entry + ", 1)", g.over(entry, 1), bottom);
    }

    private static void entries() {
        due.promise("promise 40");
        ValleyGuides g = with(2, 3);
        due.is("entry(-1, 0, 1)", g.entry(-1, 0, 1), -1);
        due.is("entry(2, 0, 1)", g.entry(2, 0, 1), -1);
        due.is("entry(0, -1, 1)", g.entry(0, -1, 1), -1);
        due.is("entry(0, 3, 1)", g.entry(0, 3, 1), -1);
        due.is("entry(0, 0, 0)", g.entry(0, 0, 0), -1);
        due.is("entry(0, 0, 96)", g.entry(0, 0, 96), -1);
        due.is("none came", g.count(7), 0);
        for (int i = 0; i < 14; i++) {
            due.is("entry " + i, g.entry(i % 2, i % 3, i == 0 ? 1 : 95), i);
        }
        due.is("the 15th", g.entry(0, 0, 1), -3);
        due.is("the 15th, bad", g.entry(0, 0, 96), -1);
        due.is("fourteen stay", g.count(7), 14);
    }

    private static void bad() {
        ValleyGuides g = with(2, 2);
        due.promise("promise 41");
        due.is("no entries", g.grade(0, 0, 0), NONE);
        due.is("no entries", g.grade(1, 1, 1), NONE);
        due.promise("promise 42");
        due.is("no entries", g.over(0, 0), BAD);
        due.promise("promise 43");
        due.is("no pieces", g.pieces(), 0);
        g.entry(1, 1, 7);
        due.promise("promise 41");
        due.is("a route without entries", g.grade(0, 0, 0), NONE);
        due.is("a guide without entries", g.grade(1, 0, 1), NONE);
        due.is("grade(-1, 1, 0)", g.grade(-1, 1, 0), BAD);
        due.is("grade(2, 1, 0)", g.grade(2, 1, 0), BAD);
        due.is("grade(0, -1, 0)", g.grade(0, -1, 0), BAD);
        due.is("grade(0, 2, 0)", g.grade(0, 2, 0), BAD);
        due.is("grade(1, -1, 0)", g.grade(1, -1, 0), BAD);
        due.is("grade(1, 2, 0)", g.grade(1, 2, 0), BAD);
        due.is("grade(0, 1, -1)", g.grade(0, 1, -1), BAD);
        due.is("grade(0, 1, 2)", g.grade(0, 1, 2), BAD);
        due.is("grade(0, 0, 2)", g.grade(0, 0, 2), BAD);
        grade("alone", g, 0, 1, 7, 1);
        grade("alone", g, 1, 1, 0, 1);
        due.promise("promise 42");
        due.is("over(-1, 0)", g.over(-1, 0), BAD);
        due.is("over(1, 0)", g.over(1, 0), BAD);
        due.is("over(0, -1)", g.over(0, -1), BAD);
        due.is("over(0, 2)", g.over(0, 2), BAD);
        over("nothing", g, 0, 0, 1);
    }

    private static void fits() {
        due.promise("promise 41");
        ValleyGuides g = with(3, 4);
        g.entry(2, 3, 10);
        g.entry(2, 3, 11);
        g.entry(2, 3, 15);
        grade("the mean of one pair", g, 0, 2, 12, 1);
        grade("the least guide of its piece", g, 1, 3, 0, 1);
        g.entry(2, 3, 11);
        grade("the mean of four", g, 0, 2, 47, 4);
        due.promise("promise 42");
        over("of four", g, 0, -7, 4);
        over("of four", g, 2, 13, 4);
        due.promise("promise 43");
        due.is("one piece", g.pieces(), 1);
        g.entry(0, 0, 20);
        g.entry(1, 0, 31);
        due.is("two pieces", g.pieces(), 2);
        due.promise("promise 41");
        grade("another piece", g, 0, 0, 20, 1);
        grade("another piece", g, 0, 1, 31, 1);
        grade("another piece", g, 1, 0, 0, 1);
        grade("the first is as it was", g, 0, 2, 47, 4);
        g.entry(1, 3, 34);
        due.promise("promise 43");
        due.is("hung together", g.pieces(), 1);
        due.promise("promise 41");
        grade("guide 0 is the least now", g, 1, 3, 3, 1);
        grade("so the route falls", g, 0, 2, 35, 4);
        due.promise("promise 42");
        over("the same", g, 0, -7, 4);
        due.promise("promise 41");
        grade("a guide without entries yet", g, 1, 1, NONE, NONE);
        ValleyGuides fresh = with(1, 1);
        fresh.entry(0, 0, 5);
        fresh.entry(0, 0, 8);
        due.promise("promise 42");
        over("the first call", fresh, 1, 3, 2);
        fresh.entry(0, 0, 5);
        over("the next after an entry", fresh, 1, 2, 1);
        due.promise("promise 41");
        ValleyGuides below = with(2, 2);
        below.entry(0, 0, 9);
        below.entry(0, 1, 2);
        grade("below 0", below, 1, 1, -7, 1);
        below.entry(1, 0, 10);
        below.entry(1, 1, 6);
        grade("least squares", below, 1, 1, -11, 2);
        grade("least squares", below, 0, 0, 33, 4);
        grade("least squares", below, 0, 1, 43, 4);
        due.promise("promise 42");
        over("least squares", below, 0, 3, 4);
        over("least squares", below, 1, -3, 4);
        over("least squares", below, 2, -3, 4);
        over("least squares", below, 3, 3, 4);
    }

    private static void chains() {
        due.promise("promise 43");
        ValleyGuides g = with(6, 8);
        for (int i = 0; i < 6; i++) {
            g.entry(i, 7 - i, 95 - i);
        }
        due.is("six pieces", g.pieces(), 6);
        for (int i = 0; i < 6; i++) {
            g.entry(i, 6 - i, 40 + i);
        }
        due.is("one chain", g.pieces(), 1);
        due.promise("promise 41");
        grade("the least guide", g, 1, 1, 0, 1);
        grade("the far end of the chain", g, 1, 7, (95 - 40) + (94 - 41) + (93 - 42) + (92 - 43) + (91 - 44) + (90 - 45), 1);
        grade("a route in it", g, 0, 5, 45, 1);
        grade("the next", g, 0, 4, 44 - 45, 1);
        due.promise("promise 42");
        over("nothing", g, 11, 0, 1);
        g.entry(0, 1, 95);
        g.entry(5, 7, 1);
        due.is("the chain is one with 14 entries", g.pieces(), 1);
        due.promise("promise 41");
        due.is("a divisor is above 0", Long.signum(g.grade(0, 0, 1)), 1);
    }

    public static void main(String[] arguments) {
        entries();
        bad();
        fits();
        chains();
        due.close();
    }
}
