/** Promises 17 to 21, 29, 30, 46, 47: guides, the list, turns, images. */
public final class GuidesTest {
    private static final Due due = new Due();

    /** A route of hard 3 in calm weather. */
    private static ValleyGuides withRoute() {
        ValleyGuides g = new ValleyGuides();
        g.place(1);
        g.place(1);
        g.step(0, 1, 2, 5, 3, false);
        g.route(0);
        for (int k = 0; k < 3; k++) {
            g.sheet(k, k, 24);
        }
        return g;
    }

    private static void list(String when, ValleyGuides g, int... want) {
        for (int i = 0; i < want.length; i++) {
            due.is(when + ": list(" + i + ")", g.list(i), want[i]);
            due.is(when + ": told(" + want[i] + ", 3)", g.told(want[i], 3), i);
        }
        due.is(when + ": list behind", g.list(want.length), -1);
    }

    private static void guides() {
        due.promise("promise 17");
        ValleyGuides g = new ValleyGuides();
        due.is("guide(-1, 0, 0)", g.guide(-1, 0, 0), -1);
        due.is("guide(6, 0, 0)", g.guide(6, 0, 0), -1);
        due.is("guide(0, -1, 0)", g.guide(0, -1, 0), -1);
        due.is("guide(0, 10, 0)", g.guide(0, 10, 0), -1);
        due.is("guide(0, 0, -1)", g.guide(0, 0, -1), -1);
        due.is("guide(0, 0, 1000)", g.guide(0, 0, 1000), -1);
        due.is("none came", g.count(3), 0);
        due.is("guide(0, 0, 0)", g.guide(0, 0, 0), 0);
        due.is("guide(5, 9, 999)", g.guide(5, 9, 999), 1);
        for (int i = 2; i < 8; i++) {
            due.is("guide " + i, g.guide(1, 2, 3), i);
        }
        due.is("the 9th", g.guide(1, 2, 3), -3);
        due.is("the 9th, bad", g.guide(1, 2, 1000), -1);
        due.is("eight stay", g.count(3), 8);
        list("as they came", g, 0, 1, 2, 3, 4, 5, 6, 7);

        due.promise("promise 19");
        int[] told = {5, 9, 999, 1, 0, 0, 0};
        for (int what = 0; what < 7; what++) {
            due.is("told(1, " + what + ")", g.told(1, what), told[what]);
        }
        due.is("told(1, -1)", g.told(1, -1), -1);
        due.is("told(1, 7)", g.told(1, 7), -1);
        due.is("told(-1, 0)", g.told(-1, 0), -1);
        due.is("told(8, 0)", g.told(8, 0), -1);

        due.promise("promise 18");
        due.is("papers(-1, 0)", g.papers(-1, 0), -1);
        due.is("papers(8, 0)", g.papers(8, 0), -1);
        due.is("papers(2, -1)", g.papers(2, -1), -1);
        due.is("papers(2, 1000)", g.papers(2, 1000), -1);
        due.is("papers(2, 999)", g.papers(2, 999), 3);
        due.is("papers(2, 0)", g.papers(2, 0), 999);
        due.is("told(2, 2)", g.told(2, 2), 0);
        due.is("told(3, 2)", g.told(3, 2), 3);

        due.promise("promise 20");
        due.is("list(-1)", g.list(-1), -1);
        due.is("list(8)", g.list(8), -1);
        due.is("list(7)", g.list(7), 7);
        due.is("list(0) of none", new ValleyGuides().list(0), -1);
        due.is("told(0, 0) of none", new ValleyGuides().told(0, 0), -1);
    }

    private static void days() {
        due.promise("promise 21");
        ValleyGuides g = withRoute();
        g.guide(5, 5, 999);
        due.is("day(-1)", g.day(-1), -1);
        due.is("day(1000)", g.day(1000), -1);
        g.go(0, 0, 1);
        due.is("out", g.told(0, 4), 1);
        due.is("a refused day", g.day(1000), -1);
        due.is("leaves it out", g.told(0, 4), 1);
        due.is("the same day is not ahead", g.day(0), 0);
        due.is("out no more", g.told(0, 4), 0);
        due.is("day(7)", g.day(7), 0);
        due.is("day(6)", g.day(6), -1);
        due.is("day(7)", g.day(7), 7);
        due.is("day(999)", g.day(999), 7);
        due.is("count(9)", g.count(9), 999);
    }

    private static void turns() {
        due.promise("promise 29");
        ValleyGuides g = withRoute();
        due.is("no guides", g.turn(0, 0, 1, 0), -4);
        g.guide(2, 5, 999);
        g.guide(3, 5, 4);
        g.guide(5, 5, 5);
        g.guide(4, 5, 999);
        g.guide(3, 5, 999);
        g.day(5);
        due.is("without a statute one is asked", g.turn(0, 0, 1, 0), 2);
        due.is("one alone", g.turn(0, 0, 1, 1), -4);
        Texts.tell(g, "ask people;bar quarter=9;pay 1007*people;");
        due.is("the first of three", g.turn(0, 0, 3, 0), 2);
        due.is("the second of three", g.turn(0, 0, 3, 1), 3);
        due.is("the third of three", g.turn(0, 0, 3, 2), 4);
        due.is("a fourth of three", g.turn(0, 0, 3, 3), -4);
        due.is("the first of four", g.turn(0, 0, 4, 0), -4);
        due.is("refused", g.turn(0, 9, 3, 0), -4);
        due.is("place -1", g.turn(0, 0, 3, -1), -1);
        due.is("place -1, refused", g.turn(0, 9, 3, -1), -1);
        due.is("route -1", g.turn(-1, 0, 3, 0), -1);
        due.is("route 1", g.turn(1, 0, 3, 0), -1);
        due.is("quarter -1", g.turn(0, -1, 3, 0), -1);
        due.is("quarter 96", g.turn(0, 96, 3, 0), -1);
        due.is("people 0", g.turn(0, 0, 0, 0), -1);
        due.is("people 10", g.turn(0, 0, 10, 0), -1);
        list("nothing went", g, 0, 1, 2, 3, 4);

        due.promise("promise 30");
        due.is("go(-1, 0, 1)", g.go(-1, 0, 1), -1);
        due.is("go(1, 0, 1)", g.go(1, 0, 1), -1);
        due.is("go(0, -1, 1)", g.go(0, -1, 1), -1);
        due.is("go(0, 96, 1)", g.go(0, 96, 1), -1);
        due.is("go(0, 0, 0)", g.go(0, 0, 0), -1);
        due.is("go(0, 0, 10)", g.go(0, 0, 10), -1);
        due.is("refused", g.go(0, 9, 1), -2);
        due.is("refused, and not as many", g.go(0, 9, 9), -2);
        due.is("not as many", g.go(0, 0, 4), -4);
        list("nothing went", g, 0, 1, 2, 3, 4);
        due.is("nothing paid", g.count(8), 0);
        due.is("two go", g.go(0, 0, 2), 2);
        list("two went", g, 0, 1, 4, 2, 3);
        due.is("each has 1007 less 100", g.told(2, 5), 907);
        due.is("each has 1007 less 100", g.told(3, 5), 907);
        due.is("the purse has two tenths", g.count(8), 200);
        due.is("not of the purse", g.told(2, 6), 0);
        due.is("who was passed over has nothing", g.told(1, 5), 0);
        due.is("out", g.told(2, 4), 1);
        due.is("out", g.told(3, 4), 1);
        due.is("not out", g.told(4, 4), 0);
        due.is("two are out", g.count(10), 2);
        due.is("those who are out are passed over", g.turn(0, 0, 1, 0), 4);
        due.is("there is one left", g.go(0, 0, 2), -4);
        due.is("it goes", g.go(0, 0, 1), 1);
        list("all went", g, 0, 1, 2, 3, 4);
        due.is("none is left", g.go(0, 0, 1), -4);
        g.day(6);
        due.is("its papers have ended", g.turn(0, 0, 1, 0), 3);
        g.papers(1, 6);
        due.is("papers up to the day", g.turn(0, 0, 1, 0), 1);
        due.is("three go", g.go(0, 0, 3), 3);
        list("by the list", g, 0, 2, 1, 3, 4);
        due.is("907 twice", g.told(3, 5), 1814);
        due.is("the purse has six tenths", g.count(8), 600);
        g.day(7);
        g.papers(1, 999);
        g.papers(2, 999);
        Texts.tell(g, "ask 3;pay 100;");
        due.is("a part of 33", g.go(0, 0, 1), 3);
        due.is("33 less 3", g.told(2, 5), 907 + 30);
        due.is("three by three", g.count(8), 609);
        Texts.tell(g, "ask 1;pay 9;");
        due.is("a part of 9", g.go(0, 0, 1), 1);
        due.is("9 less nothing", g.told(4, 5), 1814 + 9);
        due.is("nothing comes to the purse", g.count(8), 609);
        Texts.tell(g, "ask 0-5;pay 0-9;");
        g.day(8);
        due.is("one goes for nothing", g.go(0, 0, 1), 1);
        due.is("it has what it had", g.told(2, 5), 937);
    }

    private static void images() {
        due.promise("promise 47");
        ValleyGuides g = withRoute();
        due.is("back without an image", g.back(), -4);
        due.promise("promise 46");
        due.is("image of nothing", g.image(), 1);
        due.is("back to nothing", g.back(), 0);
        Texts.tell(g, "pay 100;");
        for (int i = 0; i < 4; i++) {
            g.guide(3, i, 20 + i);
        }
        g.day(3);
        g.go(0, 0, 1);
        g.give(90);
        g.share(6);
        due.is("image", g.image(), 1);
        g.day(5);
        g.go(0, 0, 1);
        g.go(0, 0, 1);
        g.share(15);
        g.give(7);
        g.papers(3, 77);
        g.guide(5, 5, 50);
        g.guide(4, 4, 40);
        g.go(0, 0, 1);
        g.go(0, 0, 1);
        g.go(0, 0, 1);
        list("ahead of back", g, 1, 2, 5, 3, 0, 4);
        due.is("one that came since is out", g.told(4, 4), 1);
        due.is("and has pence", g.told(4, 5), 90);
        due.promise("promise 47");
        due.is("back", g.back(), 4);
        list("as in the image, then those that came since", g, 1, 2, 3, 0, 4, 5);
        int[] out = {1, 0, 0, 0, 0, 0};
        int[] paid = {90, 0, 0, 0, 0, 0};
        int[] had = {0, 50, 50, 0, 0, 0};
        for (int i = 0; i < 6; i++) {
            due.is("told(" + i + ", 4)", g.told(i, 4), out[i]);
            due.is("told(" + i + ", 5)", g.told(i, 5), paid[i]);
            due.is("told(" + i + ", 6)", g.told(i, 6), had[i]);
        }
        due.is("the day", g.count(9), 3);
        due.is("the purse", g.count(8), 0);
        due.is("the papers are not of it", g.told(3, 2), 77);
        due.is("those that came since stay", g.told(4, 0), 5);
        due.is("the statute is not of it", g.pay(0, 0, 1), 100);
        g.give(11);
        g.day(9);
        due.is("back once more", g.back(), 4);
        due.is("the purse", g.count(8), 0);
        due.is("the day", g.count(9), 3);
        g.give(13);
        due.promise("promise 46");
        due.is("another image", g.image(), 1);
        g.give(1);
        due.is("back to that one", g.back(), 6);
        due.is("the purse of that one", g.count(8), 13);
        due.is("a day ahead of the image's", g.day(2), -1);
    }

    public static void main(String[] arguments) {
        guides();
        days();
        turns();
        images();
        due.close();
    }
}
