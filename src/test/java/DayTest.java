/** Promises 34 to 39: ropes and the day they walk in. */
public final class DayTest {
    private static final Due due = new Due();

    /** Places with 3, 2, 0 beds; steps of 4 quarters: 0 narrow 0-1, 1 1-0, 2 1-2, 3 ridge 0-1 of hard 5. */
    private static ValleyGuides net() {
        ValleyGuides g = new ValleyGuides();
        g.place(3);
        g.place(2);
        g.place(0);
        g.step(0, 1, 0, 4, 0, true);
        g.step(1, 0, 0, 4, 0, false);
        g.step(1, 2, 0, 4, 0, false);
        g.step(0, 1, 4, 4, 5, false);
        g.route(0);
        g.route(0);
        g.on(1, 1);
        g.route(1);
        g.on(2, 0);
        g.on(2, 2);
        g.route(3);
        for (int k = 0; k < 3; k++) {
            g.sheet(k, k, 24);
        }
        return g;
    }

    private static void went(String when, ValleyGuides g, int rope, int... want) {
        for (int what = 0; what < 7; what++) {
            due.is(when + ": went(" + rope + ", " + what + ")", g.went(rope, what), want[what]);
        }
    }

    private static void stayed(String when, ValleyGuides g, int place, int... want) {
        for (int what = 0; what < 3; what++) {
            due.is(when + ": stayed(" + place + ", " + what + ")", g.stayed(place, what), want[what]);
        }
    }

    private static void at(String when, ValleyGuides g, int rope, int from, int to, int want) {
        for (int quarter = from; quarter <= to; quarter++) {
            due.is(when + ": at(" + rope + ", " + quarter + ")", g.at(rope, quarter), want);
        }
    }

    private static void ropes() {
        due.promise("promise 34");
        ValleyGuides g = net();
        due.is("rope(-1, 0, 0, 1)", g.rope(-1, 0, 0, 1), -1);
        due.is("rope(4, 0, 0, 1)", g.rope(4, 0, 0, 1), -1);
        due.is("rope(0, -1, 0, 1)", g.rope(0, -1, 0, 1), -1);
        due.is("rope(0, 10, 0, 1)", g.rope(0, 10, 0, 1), -1);
        due.is("rope(0, 0, -1, 1)", g.rope(0, 0, -1, 1), -1);
        due.is("rope(0, 0, 96, 1)", g.rope(0, 0, 96, 1), -1);
        due.is("rope(0, 0, 0, 0)", g.rope(0, 0, 0, 0), -1);
        due.is("rope(0, 0, 0, 10)", g.rope(0, 0, 0, 10), -1);
        due.is("none came", g.count(6), 0);
        due.promise("promise 35");
        due.is("unrope() of none", g.unrope(), -4);
        due.promise("promise 34");
        for (int i = 0; i < 8; i++) {
            due.is("rope " + i, g.rope(i % 4, 9 * (i % 2), 95 * (i % 2), 1 + 8 * (i % 2)), i);
        }
        due.is("the 9th", g.rope(0, 0, 0, 1), -3);
        due.is("the 9th, bad", g.rope(0, 0, 0, 0), -1);
        due.is("eight stay", g.count(6), 8);
        due.promise("promise 35");
        for (int i = 7; i >= 0; i--) {
            due.is("unrope()", g.unrope(), i);
            due.is("as many left", g.count(6), i);
            due.is("it is no more", g.went(i, 0), -1);
        }
        due.is("unrope() of none", g.unrope(), -4);
        due.is("a new one has the first number", g.rope(0, 9, 20, 1), 0);
        due.is("and its own start", g.at(0, 19), -4);
        due.is("and its own start", g.at(0, 20), 100);
    }

    private static void oneRope() {
        due.promise("promise 36");
        ValleyGuides g = net();
        g.rope(1, 9, 10, 2);
        went("there and back", g, 0, 0, 18, 0, 0, 2, 2, 0);
        due.promise("promise 37");
        stayed("there and back", g, 0, 2, 0, 2);
        stayed("there and back", g, 1, 0, 0, 1);
        stayed("there and back", g, 2, 0, 0, 0);
        due.promise("promise 38");
        at("there and back", g, 0, 0, 9, -4);
        at("there and back", g, 0, 10, 13, 100);
        at("there and back", g, 0, 14, 17, 101);
        at("there and back", g, 0, 18, 95, 0);
        due.promise("promise 36");
        g = net();
        g.rope(0, 2, 10, 9);
        went("slower by 2, seven without beds", g, 0, 1, 16, 0, 0, 2, 1, 1);
        due.promise("promise 37");
        stayed("seven without beds", g, 1, 2, 7, 1);
        due.promise("promise 36");
        g.unrope();
        g.rope(0, 9, 91, 1);
        went("there in quarter 95", g, 0, 1, 95, 0, 0, 1, 1, 1);
        g.unrope();
        g.rope(0, 9, 92, 1);
        went("would be there in quarter 96", g, 0, -5, -5, 0, 0, 0, 0, 0);
        due.promise("promise 37");
        stayed("out", g, 0, 0, 0, 1);
        stayed("out", g, 1, 0, 0, 0);
        due.promise("promise 38");
        at("out", g, 0, 92, 95, 100);
        due.promise("promise 36");
        g.unrope();
        g.rope(1, 9, 90, 1);
        went("out on its second step", g, 0, -5, -5, 0, 0, 0, 1, 1);
        due.promise("promise 38");
        at("out on its second step", g, 0, 94, 95, 101);
        due.promise("promise 36");
        g.unrope();
        g.rope(2, 9, 10, 4);
        went("no beds there", g, 0, 2, 22, 0, 0, 0, 3, 2);
        due.promise("promise 37");
        stayed("no beds there", g, 2, 0, 4, 1);
        due.promise("promise 36");
        due.is("went(-1, 0)", g.went(-1, 0), -1);
        due.is("went(1, 0)", g.went(1, 0), -1);
        due.is("went(0, -1)", g.went(0, -1), -1);
        due.is("went(0, 7)", g.went(0, 7), -1);
        due.promise("promise 37");
        due.is("stayed(-1, 0)", g.stayed(-1, 0), -1);
        due.is("stayed(3, 0)", g.stayed(3, 0), -1);
        due.is("stayed(0, -1)", g.stayed(0, -1), -1);
        due.is("stayed(0, 3)", g.stayed(0, 3), -1);
        due.promise("promise 38");
        due.is("at(-1, 0)", g.at(-1, 0), -1);
        due.is("at(1, 0)", g.at(1, 0), -1);
        due.is("at(0, -1)", g.at(0, -1), -1);
        due.is("at(0, 96)", g.at(0, 96), -1);
    }

    private static void narrow() {
        due.promise("promise 36");
        ValleyGuides g = net();
        g.rope(0, 9, 5, 1);
        g.rope(0, 9, 4, 1);
        g.rope(0, 9, 4, 1);
        g.rope(3, 9, 4, 1);
        went("came in 5, goes behind those of 4", g, 0, 1, 16, 0, 7, 0, 1, 1);
        went("the first of 4", g, 1, 1, 8, 0, 0, 1, 1, 1);
        went("the second of 4", g, 2, 1, 12, 0, 4, 0, 1, 1);
        went("by the ridge", g, 3, 1, 9, 0, 0, 1, 1, 1);
        due.promise("promise 37");
        stayed("those done first have the beds", g, 1, 2, 2, 4);
    }

    private static void bedsByCall() {
        due.promise("promise 36");
        ValleyGuides g = net();
        g.rope(0, 9, 10, 1);
        g.rope(0, 9, 10, 1);
        g.rope(1, 9, 10, 3);
        went("first", g, 0, 1, 14, 0, 0, 1, 1, 1);
        went("second", g, 1, 1, 18, 0, 4, 1, 1, 1);
        went("third, back again", g, 2, 0, 26, 0, 8, 3, 2, 0);
        due.promise("promise 37");
        stayed("both had beds", g, 1, 2, 0, 3);
        stayed("STARTS too", g, 0, 3, 0, 4);
        due.promise("promise 38");
        at("waits", g, 2, 10, 17, 0);
        at("goes", g, 2, 18, 21, 100);
        due.promise("promise 36");
        ValleyGuides full = net();
        full.rope(0, 9, 20, 9);
        full.rope(3, 9, 15, 1);
        went("came first", full, 1, 1, 20, 0, 0, 1, 1, 1);
        went("came later", full, 0, 1, 24, 0, 0, 1, 1, 1);
        due.promise("promise 37");
        stayed("one bed was left for nine", full, 1, 2, 8, 2);
        full.rope(3, 9, 19, 1);
        full.rope(2, 9, 20, 1);
        due.promise("promise 36");
        went("of one quarter by numbers", full, 2, 1, 24, 0, 0, 0, 1, 1);
        went("waits for none at 1", full, 3, 2, 32, 0, 0, 0, 3, 2);
        ValleyGuides long4 = net();
        for (int i = 0; i < 8; i++) {
            long4.rope(0, 0, 80, 1);
        }
        went("two went, the third is on the step", long4, 2, -5, -5, 0, 14, 0, 0, 0);
        went("the fourth waits to the end", long4, 3, -5, -5, 0, 16, 0, 0, 0);
        due.promise("promise 38");
        at("the fourth waits to the end", long4, 3, 80, 95, 0);
        due.promise("promise 37");
        stayed("those who are out lie nowhere", long4, 0, 0, 0, 8);
    }

    private static void turning() {
        due.promise("promise 36");
        ValleyGuides g = net();
        g.lay(0, 3, 5100);
        g.rope(3, 9, 11, 1);
        g.rope(3, 9, 12, 4);
        g.rope(3, 9, 16, 1);
        went("ahead of the wind", g, 0, 1, 16, 0, 0, 1, 1, 1);
        went("barred", g, 1, 0, 12, 1, 0, 3, 0, 0);
        went("behind the wind", g, 2, 1, 21, 0, 0, 1, 1, 1);
        due.promise("promise 37");
        stayed("turned at its start", g, 0, 3, 1, 3);
        due.promise("promise 38");
        at("turned", g, 1, 12, 95, 0);
        due.promise("promise 48");
        due.is("ropes that turned", g.count(11), 1);
        due.promise("promise 36");
        g = net();
        Texts.tell(g, "bar 1<2;pay 1;back quarter>13 and people>2;back day=3;ask quarter;");
        g.rope(1, 9, 10, 2);
        g.rope(2, 9, 10, 3);
        g.rope(0, 9, 20, 3);
        went("two go on, those who turned have the beds", g, 0, 0, 18, 0, 0, 0, 2, 0);
        went("three turn at 0", g, 1, 0, 14, 1, 0, 3, 1, 0);
        went("three turn at once", g, 2, 0, 20, 1, 0, 0, 0, 0);
        due.promise("promise 48");
        due.is("two turned", g.count(11), 2);
        due.promise("promise 36");
        g.unrope();
        g.unrope();
        g.unrope();
        g.rope(0, 9, 10, 3);
        went("at its end it does not turn", g, 0, 1, 14, 0, 0, 2, 1, 1);
        g.unrope();
        g.rope(1, 9, 10, 2);
        g.day(3);
        went("as all is now", g, 0, 0, 10, 1, 0, 2, 0, 0);
        g.day(4);
        went("as all is now", g, 0, 0, 18, 0, 0, 2, 2, 0);
        g = net();
        Texts.tell(g, "back quarter=12;");
        g.rope(0, 9, 10, 1);
        g.rope(0, 9, 10, 1);
        went("turns while it waits", g, 1, 0, 12, 1, 2, 1, 0, 0);
        Texts.tell(g, "back grade=0 and hard=0 and length=8 and wind=0 and quarter=14;");
        g.rope(1, 9, 10, 1);
        went("by the whole of its route", g, 2, 0, 14, 1, 4, 1, 0, 0);
        went("another route", g, 1, 1, 18, 0, 4, 1, 1, 1);
        g.on(0, 1);
        went("a longer route", g, 0, 1, 14, 1, 0, 1, 1, 1);
    }

    private static void near() {
        due.promise("promise 39");
        ValleyGuides g = net();
        due.is("nobody", g.near(1, 0, 0), -4);
        due.is("nobody", g.near(1, 0, 1), -4);
        due.is("near(-1, 0, 0)", g.near(-1, 0, 0), -1);
        due.is("near(3, 0, 0)", g.near(3, 0, 0), -1);
        due.is("near(0, -1, 0)", g.near(0, -1, 0), -1);
        due.is("near(0, 96, 0)", g.near(0, 96, 0), -1);
        due.is("near(0, 0, -1)", g.near(0, 0, -1), -1);
        due.is("near(0, 0, 2)", g.near(0, 0, 2), -1);
        g.guide(5, 3, 999);
        g.guide(5, 6, 999);
        g.guide(5, 6, 999);
        due.is("the faster of the guides", g.near(1, 20, 1), 1);
        due.is("comes in", g.near(1, 20, 0), 25);
        due.is("all are there", g.near(0, 20, 1), 0);
        due.is("now", g.near(0, 95, 0), 95);
        due.is("in quarter 95", g.near(1, 90, 0), 95);
        due.is("too late", g.near(1, 91, 0), -4);
        due.is("too late for any", g.near(1, 91, 1), -4);
        g.rope(0, 6, 30, 1);
        due.is("a rope that has not begun", g.near(1, 29, 1), 1);
        due.is("a rope on a step", g.near(1, 30, 0), 35);
        due.is("a rope on a step", g.near(1, 34, 1), 1);
        due.is("a rope that is there", g.near(1, 35, 1), 100);
        due.is("a rope that is there", g.near(1, 35, 0), 35);
        due.is("a rope on its way to 2", g.near(2, 40, 1), 100);
        due.is("by its own strength", g.near(2, 40, 0), 45);
        due.is("guides first", g.near(0, 40, 1), 0);
        g.rope(1, 9, 50, 1);
        due.is("the rope that waits for none", g.near(0, 58, 1), 0);
        g.rope(0, 6, 30, 1);
        due.is("two ropes at 1, by numbers", g.near(1, 60, 1), 100);
        g.unrope();
        g.unrope();
        g.rope(0, 9, 30, 1);
        due.is("the second rope is faster", g.near(2, 60, 0), 64);
        due.is("the second rope is faster", g.near(2, 60, 1), 101);
        Texts.tell(g, "ask 2;");
        due.is("two guides go", g.go(0, 0, 1), 2);
        due.is("the one who is not out", g.near(1, 20, 1), 2);
        g.rope(0, 7, 30, 1);
        due.is("a rope that waits at 0", g.near(0, 31, 1), 2);
        g.go(0, 0, 1);
        Texts.tell(g, "ask 1;");
        due.is("the last goes", g.go(0, 0, 1), 1);
        due.is("all guides are out", g.near(1, 20, 1), -4);
        due.is("a rope that waits", g.near(0, 31, 1), 101);
        due.is("from where it waits", g.near(1, 31, 0), 35);
        ValleyGuides fresh = net();
        fresh.rope(0, 9, 10, 1);
        due.is("the first call", fresh.near(1, 14, 1), 100);
        fresh.unrope();
        fresh.rope(2, 9, 10, 1);
        due.is("another rope by the same number", fresh.near(2, 22, 0), 22);
        due.promise("promise 48");
        Texts.tell(fresh, "back 1=1;");
        due.is("the first call since", fresh.count(11), 1);
        due.promise("promise 37");
        Texts.tell(fresh, "");
        due.is("the first call since", fresh.stayed(2, 1), 1);
        due.promise("promise 38");
        Texts.tell(fresh, "back 1=1;");
        due.is("the first call since", fresh.at(0, 22), 1);
        due.promise("promise 39");
        ValleyGuides tie = net();
        tie.rope(0, 9, 10, 1);
        tie.guide(0, 9, 0);
        tie.step(0, 2, 0, 4, 0, false);
        due.is("a guide ahead of a rope", tie.near(2, 20, 1), 0);
        due.is("both come in", tie.near(2, 20, 0), 24);
    }

    public static void main(String[] arguments) {
        ropes();
        oneRope();
        narrow();
        bedsByCall();
        turning();
        near();
        due.close();
    }
}
