/** Promises 1, 44, 45, 48: a new object, the purse, the counts. */
public final class PurseTest {
    private static final Due due = new Due();

    private static void newObject() {
        due.promise("promise 1");
        ValleyGuides g = new ValleyGuides();
        for (int what = 0; what <= 12; what++) {
            due.is("count(" + what + ")", g.count(what), 0);
        }
        for (int what = 0; what < 3; what++) {
            due.is("unknown(0, " + what + ")", g.unknown(0, what), 1);
        }
        for (int k = 0; k < 4; k++) {
            due.is("tear(" + k + ")", g.tear(k), 0);
        }
        due.is("no image", g.back(), -4);
        due.is("no fault", g.fault(), 0);
        ValleyGuides other = new ValleyGuides();
        other.place(1);
        other.give(5);
        due.is("objects stand alone", g.count(0) + g.count(8), 0);
        due.is("BAD", ValleyGuides.BAD, -1);
        due.is("STATE", ValleyGuides.STATE, -2);
        due.is("FULL", ValleyGuides.FULL, -3);
        due.is("NONE", ValleyGuides.NONE, -4);
        due.is("BARRED", ValleyGuides.BARRED, -5);
    }

    private static void give() {
        due.promise("promise 44");
        ValleyGuides g = new ValleyGuides();
        due.is("give(0)", g.give(0), -1);
        due.is("give(-1)", g.give(-1), -1);
        due.is("give(100001)", g.give(100001), -1);
        due.is("none came", g.count(8), 0);
        due.is("give(1)", g.give(1), 1);
        due.is("give(100000)", g.give(100000), 100001);
        due.is("give(7)", g.give(7), 100008);
        due.is("count(8)", g.count(8), 100008);
        // What is FULL stands in PurseBoundsTest: no object bears as many calls as that takes.
    }

    private static void share() {
        due.promise("promise 45");
        ValleyGuides g = new ValleyGuides();
        due.is("nobody there", g.share(1), -1);
        g.give(100);
        due.is("nobody there", g.share(1), -1);
        for (int i = 0; i < 3; i++) {
            g.guide(0, 0, 0);
        }
        due.is("share(0)", g.share(0), -1);
        due.is("share(8)", g.share(8), -1);
        due.is("share(9)", g.share(9), -1);
        due.is("share(-1)", g.share(-1), -1);
        due.is("the highest bit", g.share(Integer.MIN_VALUE), -1);
        due.is("a high bit and a low one", g.share(1 << 30 | 1), -1);
        due.is("nothing went", g.count(8), 100);
        due.is("share(7)", g.share(7), 33);
        due.is("one is over", g.count(8), 1);
        due.is("share(6)", g.share(6), -2);
        due.is("share(8), less than one each", g.share(8), -1);
        due.is("one is still there", g.count(8), 1);
        due.is("share(4)", g.share(4), 1);
        due.is("nothing is over", g.count(8), 0);
        due.is("share(4)", g.share(4), -2);
        g.give(9);
        due.is("share(5)", g.share(5), 4);
        int[] had = {37, 33, 38};
        for (int i = 0; i < 3; i++) {
            due.is("told(" + i + ", 6)", g.told(i, 6), had[i]);
            due.is("told(" + i + ", 5)", g.told(i, 5), 0);
        }
        for (int i = 3; i < 8; i++) {
            g.guide(0, 0, 0);
        }
        g.give(799);
        due.is("share(255)", g.share(255), 100);
        due.is("none over", g.count(8), 0);
        due.is("the last one's", g.told(7, 6), 100);
    }

    private static void count() {
        due.promise("promise 48");
        ValleyGuides g = new ValleyGuides();
        due.is("count(-1)", g.count(-1), -1);
        due.is("count(13)", g.count(13), -1);
        for (int i = 0; i < 12; i++) {
            g.place(9);
        }
        for (int i = 0; i < 11; i++) {
            g.step(i, i + 1, i == 0 ? 3 : 0, 1, 0, false);
        }
        for (int i = 0; i < 4; i++) {
            g.route(i % 2);
        }
        for (int i = 0; i < 7; i++) {
            g.guide(5, 5, 999);
        }
        Texts.tell(g, "ask 2;pay 500;");
        for (int i = 0; i < 8; i++) {
            g.person(i);
        }
        for (int i = 0; i < 3; i++) {
            g.rope(i % 2, 5, 10, 1);
        }
        for (int i = 0; i < 9; i++) {
            g.entry(0, 0, 5);
        }
        g.day(17);
        g.go(0, 0, 1);
        g.feed(0);
        g.end(6);
        int[] counts = {12, 11, 4, 7, 2, 8, 3, 9, 50, 17, 2, 2, 6};
        for (int what = 0; what <= 12; what++) {
            due.is("count(" + what + ")", g.count(what), counts[what]);
        }
        g.sheet(2, 2, 24);
        due.is("none turns without snow", g.count(11), 0);
        g.day(18);
        due.is("none is out on another day", g.count(10), 0);
    }

    public static void main(String[] arguments) {
        newObject();
        give();
        share();
        count();
        due.close();
    }
}
