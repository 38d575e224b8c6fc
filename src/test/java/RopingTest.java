/** Promises 31 to 33: people, wishes, ropings. */
public final class RopingTest {
    private static final Due due = new Due();

    private static ValleyGuides withPeople(int... strengths) {
        ValleyGuides g = new ValleyGuides();
        for (int strength : strengths) {
            g.person(strength);
        }
        return g;
    }

    private static void people() {
        due.promise("promise 31");
        ValleyGuides g = new ValleyGuides();
        due.is("person(-1)", g.person(-1), -1);
        due.is("person(10)", g.person(10), -1);
        due.is("none came", g.count(5), 0);
        for (int i = 0; i < 9; i++) {
            due.is("person " + i, g.person(i == 8 ? 9 : i), i);
        }
        due.is("the 10th", g.person(0), -3);
        due.is("the 10th, bad", g.person(10), -1);
        due.is("nine stay", g.count(5), 9);
    }

    private static void wishes() {
        due.promise("promise 32");
        ValleyGuides g = withPeople(1, 2, 3);
        due.is("wish(0, 1, 9)", g.wish(0, 1, 9), 0);
        due.is("wish(0, 1, -9)", g.wish(0, 1, -9), 9);
        due.is("wish(1, 0, 4)", g.wish(1, 0, 4), 0);
        due.is("wish(0, 1, 5)", g.wish(0, 1, 5), -9);
        due.is("wish(0, 1, 10)", g.wish(0, 1, 10), -100);
        due.is("wish(0, 1, -10)", g.wish(0, 1, -10), -100);
        due.is("wish(0, 0, 1)", g.wish(0, 0, 1), -100);
        due.is("wish(-1, 0, 1)", g.wish(-1, 0, 1), -100);
        due.is("wish(3, 0, 1)", g.wish(3, 0, 1), -100);
        due.is("wish(0, -1, 1)", g.wish(0, -1, 1), -100);
        due.is("wish(0, 3, 1)", g.wish(0, 3, 1), -100);
        due.is("what was refused changed nothing", g.wish(0, 1, 5), 5);
        due.is("both ways", g.roping(0, 0), 9);
    }

    private static void bad() {
        due.promise("promise 33");
        ValleyGuides g = withPeople(1, 2, 3);
        due.is("least -1", g.roping(-1, 0), -1000);
        due.is("least 31", g.roping(31, 0), -1000);
        due.is("what -1", g.roping(0, -1), -1000);
        due.is("what 2", g.roping(0, 2), -1000);
        due.is("what 9", g.roping(0, 9), -1000);
        due.is("person 3", g.roping(0, 13), -1000);
        due.is("person 3, and there is none", g.roping(30, 13), -1000);
        due.is("person 2, and there is none", g.roping(30, 12), -1004);
        due.is("least 6", g.roping(6, 12), 7);
        due.is("least 7", g.roping(7, 0), -1004);
        due.is("one alone", withPeople(9).roping(0, 0), -1004);
        due.is("one alone, their rope", withPeople(9).roping(0, 10), -1004);
        due.is("nobody: of no worth", new ValleyGuides().roping(0, 0), 0);
        due.is("nobody: no ropes", new ValleyGuides().roping(30, 1), 0);
        due.is("nobody's rope", new ValleyGuides().roping(0, 10), -1000);
    }

    private static void ropes(String when, ValleyGuides g, int least, int worth, int... ropes) {
        due.is(when + ": worth", g.roping(least, 0), worth);
        due.is(when + ": ropes", g.roping(least, 1), ropes.length);
        for (int rope : ropes) {
            for (int p = 0; p < 9; p++) {
                if ((rope >> p & 1) == 1) {
                    due.is(when + ": rope of " + p, g.roping(least, 10 + p), rope);
                }
            }
        }
    }

    private static void ropings() {
        due.promise("promise 33");
        ropes("two", withPeople(4, 5), 9, 0, 3);
        ropes("three", withPeople(4, 5, 0), 9, 0, 7);
        ropes("four alike: 0 with 1", withPeople(5, 5, 5, 5), 10, 0, 3, 12);
        ropes("five alike: 0 with 1 alone is the least", withPeople(5, 5, 5, 5, 5), 10, 0, 3, 28);
        ropes("six alike: pairs", withPeople(5, 5, 5, 5, 5, 5), 10, 0, 3, 12, 48);
        ropes("six alike, threes asked for", withPeople(5, 5, 5, 5, 5, 5), 11, 0, 7, 56);
        ropes("nine alike", withPeople(5, 5, 5, 5, 5, 5, 5, 5, 5), 0, 0, 3, 12, 48, 448);
        ropes("nine of nine in threes", withPeople(9, 9, 9, 9, 9, 9, 9, 9, 9), 27, 0, 7, 56, 448);
        ropes("a weak one and a strong one", withPeople(0, 4, 4, 9), 8, 0, 9, 6);
        ValleyGuides g = withPeople(5, 5, 5, 5, 5, 5);
        g.wish(0, 5, 3);
        ropes("who is wished for", g, 0, 3, 33, 6, 24);
        g.wish(5, 0, -4);
        ropes("but does not wish", g, 0, 0, 3, 12, 48);
        g.wish(1, 4, 2);
        g.wish(4, 3, 2);
        ropes("three in a row, for one less", g, 0, 3, 37, 26);
        g.wish(3, 1, -2);
        ropes("3 with 4 leaves 0 with 1", g, 0, 2, 3, 36, 24);
        ValleyGuides below = withPeople(5, 5, 5);
        below.wish(0, 1, -9);
        below.wish(2, 1, -9);
        ropes("worth below 0", below, 0, -18, 7);
        ValleyGuides third = withPeople(5, 5, 5, 5);
        third.wish(1, 2, 1);
        third.wish(0, 3, 1);
        ropes("the last with the first", third, 0, 2, 9, 6);
        ValleyGuides ties = withPeople(5, 5, 5, 5, 5);
        ties.wish(0, 2, 5);
        ropes("5 is below 7 and 13", ties, 0, 5, 5, 26);
        ties.wish(0, 3, 5);
        ropes("13 is the rope of 0", ties, 0, 10, 13, 18);
    }

    public static void main(String[] arguments) {
        people();
        wishes();
        bad();
        ropings();
        due.close();
    }
}
