/** Promises 2 to 7 and 13 to 16: places, steps, routes, how long they take, ways. */
public final class NetTest {
    private static final Due due = new Due();

    private static ValleyGuides withPlaces(int n) {
        ValleyGuides g = new ValleyGuides();
        for (int i = 0; i < n; i++) {
            g.place(1);
        }
        return g;
    }

    /** All three sheets there, each cell 0. */
    private static void calm(ValleyGuides g) {
        for (int k = 0; k < 3; k++) {
            g.sheet(k, k, 24);
        }
    }

    private static void places() {
        due.promise("promise 2");
        ValleyGuides g = new ValleyGuides();
        due.is("place(-1)", g.place(-1), -1);
        due.is("place(10)", g.place(10), -1);
        due.is("count(0)", g.count(0), 0);
        for (int i = 0; i < 12; i++) {
            due.is("place, the one of number " + i, g.place(i % 10), i);
        }
        due.is("place(3), the 13th", g.place(3), -3);
        due.is("place(10), the 13th", g.place(10), -1);
        due.is("place(9) ahead of the 13th", g.count(0), 12);
    }

    private static void steps() {
        due.promise("promise 3");
        ValleyGuides g = withPlaces(3);
        due.is("step from -1", g.step(-1, 1, 0, 1, 0, false), -1);
        due.is("step from 3", g.step(3, 1, 0, 1, 0, false), -1);
        due.is("step to -1", g.step(0, -1, 0, 1, 0, false), -1);
        due.is("step to 3", g.step(0, 3, 0, 1, 0, false), -1);
        due.is("step to where it is from", g.step(1, 1, 0, 1, 0, false), -1);
        due.is("sort -1", g.step(0, 1, -1, 1, 0, false), -1);
        due.is("sort 5", g.step(0, 1, 5, 1, 0, false), -1);
        due.is("length 0", g.step(0, 1, 0, 0, 0, false), -1);
        due.is("length 10", g.step(0, 1, 0, 10, 0, false), -1);
        due.is("hard -1", g.step(0, 1, 0, 1, -1, false), -1);
        due.is("hard 6", g.step(0, 1, 0, 1, 6, false), -1);
        due.is("none of them came", g.count(1), 0);
        due.is("all least", g.step(0, 1, 0, 1, 0, false), 0);
        due.is("all greatest", g.step(2, 0, 4, 9, 5, true), 1);
        for (int i = 2; i < 20; i++) {
            due.is("step, the one of number " + i, g.step(1, 2, 1, 2, 3, false), i);
        }
        due.is("the 21st", g.step(1, 2, 1, 2, 3, false), -3);
        due.is("the 21st, and bad", g.step(1, 1, 1, 2, 3, false), -1);
        due.is("twenty stay", g.count(1), 20);
    }

    private static void stepOf() {
        due.promise("promise 4");
        ValleyGuides g = withPlaces(3);
        due.is("stepOf of none", g.stepOf(0, 0), -1);
        g.step(0, 1, 0, 1, 0, false);
        g.step(2, 1, 4, 9, 5, true);
        int[] first = {0, 1, 0, 1, 0, 0};
        int[] second = {2, 1, 4, 9, 5, 1};
        for (int what = 0; what < 6; what++) {
            due.is("stepOf(0, " + what + ")", g.stepOf(0, what), first[what]);
            due.is("stepOf(1, " + what + ")", g.stepOf(1, what), second[what]);
        }
        due.is("stepOf(-1, 0)", g.stepOf(-1, 0), -1);
        due.is("stepOf(2, 0)", g.stepOf(2, 0), -1);
        due.is("stepOf(1, -1)", g.stepOf(1, -1), -1);
        due.is("stepOf(1, 6)", g.stepOf(1, 6), -1);
    }

    private static void routes() {
        due.promise("promise 5");
        ValleyGuides g = withPlaces(2);
        due.is("route(0) without steps", g.route(0), -1);
        g.step(0, 1, 0, 3, 2, false);
        g.step(1, 0, 0, 4, 1, false);
        due.is("route(-1)", g.route(-1), -1);
        due.is("route(2)", g.route(2), -1);
        for (int i = 0; i < 6; i++) {
            due.is("route, the one of number " + i, g.route(i % 2), i);
        }
        due.is("the 7th", g.route(0), -3);
        due.is("the 7th of no step", g.route(2), -1);
        due.is("six stay", g.count(2), 6);

        due.promise("promise 6");
        due.is("on(-1, 1)", g.on(-1, 1), -1);
        due.is("on(6, 1)", g.on(6, 1), -1);
        due.is("on(0, -1)", g.on(0, -1), -1);
        due.is("on(0, 2)", g.on(0, 2), -1);
        due.is("on a step that begins elsewhere", g.on(0, 0), -2);
        for (int i = 2; i <= 6; i++) {
            due.is("on, then " + i, g.on(0, (i + 1) % 2), i);
        }
        due.is("on a 7th", g.on(0, 0), -3);
        due.is("on a 7th that begins elsewhere", g.on(0, 1), -2);
        due.is("on a 7th of no step", g.on(0, 2), -1);
        due.is("six stay", g.routeOf(0, 0), 6);
        due.is("another route is as it was", g.routeOf(1, 0), 1);

        due.promise("promise 7");
        int[] whole = {6, 0, 0, 2, 9, 21};
        for (int what = 0; what < 6; what++) {
            due.is("routeOf(0, " + what + ")", g.routeOf(0, what), whole[what]);
        }
        for (int i = 0; i < 6; i++) {
            due.is("routeOf(0, 10 and " + i + ")", g.routeOf(0, 10 + i), i % 2);
        }
        due.is("routeOf(0, 16)", g.routeOf(0, 16), -1);
        due.is("routeOf(1, 1)", g.routeOf(1, 1), 1);
        due.is("routeOf(1, 2)", g.routeOf(1, 2), 0);
        due.is("routeOf(1, 3)", g.routeOf(1, 3), 1);
        due.is("routeOf(1, 10)", g.routeOf(1, 10), 1);
        due.is("routeOf(1, 11)", g.routeOf(1, 11), -1);
        due.is("routeOf(1, 6)", g.routeOf(1, 6), -1);
        due.is("routeOf(1, 9)", g.routeOf(1, 9), -1);
        due.is("routeOf(1, -1)", g.routeOf(1, -1), -1);
        due.is("routeOf(-1, 0)", g.routeOf(-1, 0), -1);
        due.is("routeOf(6, 0)", g.routeOf(6, 0), -1);
    }

    private static void takes() {
        due.promise("promise 13");
        ValleyGuides g = withPlaces(2);
        for (int sort = 0; sort < 5; sort++) {
            g.step(0, 1, sort, 5, 3, false);
        }
        calm(g);
        int[] slow = {3, 2, 2, 2, 1, 1, 1, 0, 0, 0};
        int[] climb = {7, 6, 6, 5, 4, 3, 3, 2, 1, 0};
        for (int s = 0; s < 10; s++) {
            due.is("path, strength " + s, g.takes(0, s, 0), 5 + slow[s]);
            due.is("ice, strength " + s, g.takes(1, s, 47), 5 + slow[s]);
            due.is("ice behind noon, strength " + s, g.takes(1, s, 48), 10 + 2 * slow[s]);
            due.is("rock, strength " + s, g.takes(2, s, 0), 5 + slow[s] + climb[s]);
        }
        due.is("path behind noon", g.takes(0, 9, 95), 5);
        due.is("rock behind noon", g.takes(2, 9, 95), 5);
        due.is("ridge behind noon", g.takes(4, 9, 95), 5);
        due.is("snow, calm, behind noon", g.takes(3, 6, 60), 12);
        g.lay(1, 2, 1);
        due.is("rock in rain", g.takes(2, 2, 8), 5 + 2 + 6 + 6);
        due.is("rock a quarter ahead of the rain", g.takes(2, 2, 7), 5 + 2 + 6);
        due.is("rock in the rain's last quarter", g.takes(2, 2, 11), 5 + 2 + 6 + 6);
        due.is("rock a quarter behind the rain", g.takes(2, 2, 12), 5 + 2 + 6);
        due.is("path in rain", g.takes(0, 2, 8), 7);
        g.lay(2, 3, 54);
        g.lay(2, 4, 55);
        g.lay(2, 13, 19);
        due.is("snow of 54 and hard 3", g.takes(3, 9, 12), 10);
        due.is("snow of 55 and hard 3", g.takes(3, 9, 16), -5);
        due.is("snow behind noon", g.takes(3, 9, 52), 11);
        g.lay(0, 5, 7099);
        g.lay(0, 6, 7100);
        g.lay(0, 7, 3999);
        g.lay(0, 8, 4000);
        due.is("ridge in wind of 70 and hard 3", g.takes(4, 9, 20), 6);
        due.is("ridge in wind of 71 and hard 3", g.takes(4, 9, 24), -5);
        due.is("ridge in wind of 39", g.takes(4, 9, 28), 5);
        due.is("ridge in wind of 40", g.takes(4, 9, 32), 6);
        g.lay(1, 8, 1);
        due.is("ridge in wind and rain", g.takes(4, 5, 32), 6 + 1 + 3 + 3);
        g.tear(2);
        due.is("snow that is unknown", g.takes(3, 9, 0), -5);
        due.is("takes(-1, 0, 0)", g.takes(-1, 0, 0), -1);
        due.is("takes(5, 0, 0)", g.takes(5, 0, 0), -1);
        due.is("takes(0, -1, 0)", g.takes(0, -1, 0), -1);
        due.is("takes(0, 10, 0)", g.takes(0, 10, 0), -1);
        due.is("takes(0, 0, -1)", g.takes(0, 0, -1), -1);
        due.is("takes(0, 0, 96)", g.takes(0, 0, 96), -1);
    }

    private static void hourAndLate() {
        due.promise("promise 14");
        ValleyGuides g = withPlaces(3);
        g.step(0, 1, 0, 4, 0, false);
        g.step(1, 2, 1, 3, 0, false);
        g.step(2, 0, 4, 1, 5, false);
        g.route(0);
        g.on(0, 1);
        g.on(0, 2);
        g.route(1);
        calm(g);
        due.is("hour(0, 9, 0)", g.hour(0, 9, 0), 4 + 3 + 2);
        due.is("the ice begun in quarter 47", g.hour(0, 9, 43), 47 + 3 + 2);
        due.is("the ice begun in quarter 48", g.hour(0, 9, 44), 48 + 6 + 2);
        due.is("hour with strength 5", g.hour(0, 5, 0), 5 + 4 + 2 + 6);
        due.is("the last step begun in quarter 95", g.hour(0, 9, 85), 97);
        due.is("the last step would begin in quarter 96", g.hour(0, 9, 86), -102);
        due.is("the second would begin in quarter 96", g.hour(0, 9, 92), -101);
        due.is("the first in 95", g.hour(1, 9, 95), 101);
        g.lay(0, 1, 5099);
        g.lay(0, 2, 5100);
        due.is("the ridge at 50", g.hour(0, 9, 0), 7 + 2 + 1);
        due.is("the ridge at 51", g.hour(0, 9, 1), -102);
        due.is("hour(-1, 0, 0)", g.hour(-1, 0, 0), -1);
        due.is("hour(2, 0, 0)", g.hour(2, 0, 0), -1);
        due.is("hour(0, -1, 0)", g.hour(0, -1, 0), -1);
        due.is("hour(0, 10, 0)", g.hour(0, 10, 0), -1);
        due.is("hour(0, 0, -1)", g.hour(0, 0, -1), -1);
        due.is("hour(0, 0, 96)", g.hour(0, 0, 96), -1);
        ValleyGuides ridge = withPlaces(2);
        ridge.step(0, 1, 4, 1, 5, false);
        ridge.route(0);
        due.is("the first is barred", ridge.hour(0, 9, 0), -100);

        due.promise("promise 15");
        due.is("late(1, 9, 95)", g.late(1, 9, 95), 89);
        due.is("late(1, 9, 53): twice from 48 on", g.late(1, 9, 53), 47);
        due.is("late(1, 9, 54)", g.late(1, 9, 54), 48);
        due.is("late(1, 9, 3)", g.late(1, 9, 3), 0);
        due.is("late(1, 9, 2)", g.late(1, 9, 2), -4);
        due.is("late(0, 9, 20)", g.late(0, 9, 20), 11);
        due.is("late(0, 9, 12): the ridge barred in quarters 8 to 11", g.late(0, 9, 12), 0);
        due.is("late(0, 9, 0)", g.late(0, 9, 0), -4);
        due.is("late where all is barred", ridge.late(0, 9, 95), -4);
        due.is("late(2, 0, 0)", g.late(2, 0, 0), -1);
        due.is("late(-1, 0, 0)", g.late(-1, 0, 0), -1);
        due.is("late(0, 10, 0)", g.late(0, 10, 0), -1);
        due.is("late(0, -1, 0)", g.late(0, -1, 0), -1);
        due.is("late(0, 0, 96)", g.late(0, 0, 96), -1);
        due.is("late(0, 0, -1)", g.late(0, 0, -1), -1);
    }

    private static void ways() {
        due.promise("promise 16");
        ValleyGuides g = withPlaces(5);
        g.step(0, 1, 0, 2, 0, false);
        g.step(1, 2, 0, 3, 0, false);
        g.step(0, 2, 0, 6, 0, false);
        g.step(2, 3, 4, 1, 5, false);
        g.step(0, 3, 0, 9, 0, false);
        calm(g);
        due.is("to where one is", g.way(4, 4, 0, 95), 95);
        due.is("by way of another", g.way(0, 2, 9, 0), 5);
        due.is("steps bear one way", g.way(2, 0, 9, 0), -4);
        due.is("no step leads there", g.way(0, 4, 9, 0), -4);
        due.is("three steps", g.way(0, 3, 9, 0), 5 + 2);
        due.is("slower", g.way(0, 2, 0, 0), 9);
        due.is("there in quarter 95", g.way(0, 1, 9, 93), 95);
        due.is("there in quarter 96", g.way(0, 1, 9, 94), -4);
        g.lay(0, 1, 9900);
        due.is("2 is left in quarter 5 only, where the ridge is barred", g.way(0, 3, 9, 0), 9);
        due.is("as it is a few quarters on", g.way(0, 3, 9, 3), 8 + 2);
        due.is("from 2 while it is barred", g.way(2, 3, 9, 5), -4);
        ValleyGuides late = withPlaces(3);
        late.step(0, 1, 0, 9, 0, false);
        late.step(0, 1, 0, 5, 0, false);
        late.step(1, 2, 4, 1, 5, false);
        calm(late);
        due.is("by the faster of two steps", late.way(0, 2, 9, 0), 5 + 2);
        late.lay(0, 1, 9900);
        due.is("1 is not left in quarter 9, which would do", late.way(0, 2, 9, 0), -4);
        due.is("later in the day", late.way(0, 2, 9, 3), 8 + 2);
        due.is("way(-1, 0, 0, 0)", g.way(-1, 0, 0, 0), -1);
        due.is("way(5, 0, 0, 0)", g.way(5, 0, 0, 0), -1);
        due.is("way(0, -1, 0, 0)", g.way(0, -1, 0, 0), -1);
        due.is("way(0, 5, 0, 0)", g.way(0, 5, 0, 0), -1);
        due.is("way(0, 0, -1, 0)", g.way(0, 0, -1, 0), -1);
        due.is("way(0, 0, 10, 0)", g.way(0, 0, 10, 0), -1);
        due.is("way(0, 0, 0, -1)", g.way(0, 0, 0, -1), -1);
        due.is("way(0, 0, 0, 96)", g.way(0, 0, 0, 96), -1);
    }

    public static void main(String[] arguments) {
        places();
        steps();
        stepOf();
        routes();
        takes();
        hourAndLate();
        ways();
        due.close();
    }
}
