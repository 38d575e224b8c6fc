/** Promises 8 to 12: sheets and the weather that is read off them. */
public final class WeatherTest {
    private static final Due due = new Due();

    private static void sheets() {
        due.promise("promise 8");
        ValleyGuides g = new ValleyGuides();
        due.is("sheet(-1, 0, 1)", g.sheet(-1, 0, 1), -1);
        due.is("sheet(4, 0, 1)", g.sheet(4, 0, 1), -1);
        due.is("sheet(0, -1, 1)", g.sheet(0, -1, 1), -1);
        due.is("sheet(0, 3, 1)", g.sheet(0, 3, 1), -1);
        due.is("sheet(0, 0, 25)", g.sheet(0, 0, 25), -1);
        due.is("sheet(0, 0, -1)", g.sheet(0, 0, -1), -14);
        due.is("the least size there is", g.sheet(0, 0, Integer.MIN_VALUE), -14);
        due.is("below 0 of no sheet", g.sheet(4, 0, -1), -1);
        due.is("below 0 of no lane", g.sheet(0, 3, -1), -1);
        due.is("nothing came", g.unknown(0, 0), 1);
        for (int k = 0; k < 4; k++) {
            due.is("sheet " + k, g.sheet(k, 2, 3), 1);
        }
        due.is("of 24 cells", g.sheet(0, 0, 24), 1);
        g.lay(0, 5, 900);
        due.is("below 0 leaves the old one", g.sheet(0, 0, -5), -14);
        due.is("its cell", g.weather(5, 0), 9);
        due.is("too many leaves the old one", g.sheet(0, 0, 25), -1);
        due.is("its cell", g.weather(5, 0), 9);
        due.is("a new row", g.sheet(0, 0, 24), 1);
        due.is("has cells of 0", g.weather(5, 0), 0);
        for (int k = 0; k < 3; k++) {
            for (int i = 0; i < 24; i++) {
                g.sheet(k, k, 24);
                g.lay(k, i, 50);
                due.is("cell " + i + " was laid", g.weather(i, k), k == 0 ? 0 : 50);
                g.lay(k, i, 5000);
                g.sheet(k, k, 24);
                due.is("cell " + i + " of a new row", g.weather(i, k), 0);
            }
        }
        due.is("of no cells", g.sheet(0, 0, 0), 1);
        due.is("has no first", g.unknown(0, 0), 2);
    }

    private static void laying() {
        due.promise("promise 9");
        ValleyGuides g = new ValleyGuides();
        due.is("lay(-1, 0, 0)", g.lay(-1, 0, 0), -1);
        due.is("lay(4, 0, 0)", g.lay(4, 0, 0), -1);
        due.is("on nothing", g.lay(0, 0, 0), -11);
        due.is("on nothing, far off", g.lay(0, 99, 0), -11);
        g.sheet(0, 0, 3);
        g.sheet(1, 1, 3);
        g.sheet(2, 2, 3);
        g.sheet(3, 0, 0);
        due.is("lay(0, -1, 0)", g.lay(0, -1, 0), -12);
        due.is("lay(0, 3, 0)", g.lay(0, 3, 0), -12);
        due.is("lay(3, 0, 0)", g.lay(3, 0, 0), -12);
        due.is("lay(0, 0, 100)", g.lay(0, 0, 100), 1);
        due.is("lay(0, 2, 250)", g.lay(0, 2, 250), 1);
        due.is("wind of 1", g.weather(0, 0), 1);
        due.is("wind of 2.5", g.weather(2, 0), 2);
        due.is("a short's lowest bits", g.lay(1, 0, 65536 + 17), 1);
        due.is("are 17", g.weather(0, 1), 17);
        g.lay(1, 1, 32768 + 5);
        due.is("a short below 0", g.weather(1, 1), 0);
        g.lay(2, 0, 256 + 23);
        due.is("a byte's lowest bits", g.weather(0, 2), 23);
        g.lay(2, 1, 128);
        due.is("a byte below 0", g.weather(1, 2), 0);
        g.lay(2, 1, -129);
        due.is("a byte from below up", g.weather(1, 2), 99);
        g.sheet(1, 1, 24);
        g.lay(1, 3, 256 + 23);
        due.is("a short bears more than a byte", g.weather(3, 1), 99);
    }

    private static void tearing() {
        due.promise("promise 10");
        ValleyGuides g = new ValleyGuides();
        due.is("tear(-1)", g.tear(-1), -1);
        due.is("tear(4)", g.tear(4), -1);
        for (int k = 0; k < 4; k++) {
            due.is("nothing", g.tear(k), 0);
            g.sheet(k, 1, 2);
            due.is("something", g.tear(k), 1);
            due.is("nothing again", g.tear(k), 0);
            due.is("nothing to lay on", g.lay(k, 0, 1), -11);
        }
    }

    private static void weather() {
        due.promise("promise 11");
        ValleyGuides g = new ValleyGuides();
        due.is("weather(-1, 0)", g.weather(-1, 0), -1);
        due.is("weather(24, 0)", g.weather(24, 0), -1);
        due.is("weather(0, -1)", g.weather(0, -1), -1);
        due.is("weather(0, 3)", g.weather(0, 3), -1);
        due.is("wind that is unknown", g.weather(23, 0), 200);
        due.is("rain that is unknown", g.weather(23, 1), 99);
        due.is("snow that is unknown", g.weather(23, 2), 99);
        for (int k = 0; k < 3; k++) {
            g.sheet(k, k, 24);
        }
        int[][] winds = {{99, 0}, {100, 1}, {-1, 0}, {-500, 0}, {19999, 199}, {20000, 200}, {20100, 200},
            {1999999999, 200}, {2000000000, 200}, {2000000001, 200}, {Integer.MIN_VALUE, 0}};
        for (int[] wind : winds) {
            g.lay(0, 23, wind[0]);
            due.is("wind laid as " + wind[0], g.weather(23, 0), wind[1]);
        }
        int[][] falls = {{-1, 0}, {0, 0}, {1, 1}, {98, 98}, {99, 99}, {100, 99}, {127, 99}, {-128, 0}};
        for (int[] fall : falls) {
            g.lay(1, 7, fall[0]);
            g.lay(2, 7, fall[0]);
            due.is("rain laid as " + fall[0], g.weather(7, 1), fall[1]);
            due.is("snow laid as " + fall[0], g.weather(7, 2), fall[1]);
        }
        due.is("another hour", g.weather(8, 1), 0);
        g.lay(1, 4, 2000000000);
        due.is("rain laid as 2000000000", g.weather(4, 1), 0);
    }

    private static void unknown() {
        due.promise("promise 12");
        ValleyGuides g = new ValleyGuides();
        due.is("unknown(-1, 0)", g.unknown(-1, 0), -1);
        due.is("unknown(24, 0)", g.unknown(24, 0), -1);
        due.is("unknown(0, -1)", g.unknown(0, -1), -1);
        due.is("unknown(0, 3)", g.unknown(0, 3), -1);
        for (int what = 0; what < 3; what++) {
            due.is("nothing, at first", g.unknown(0, what), 1);
            due.is("nothing, at last", g.unknown(23, what), 1);
            g.sheet(what, what, 10);
            due.is("a cell", g.unknown(0, what), 0);
            due.is("the last cell", g.unknown(9, what), 0);
            due.is("the first that is missing", g.unknown(10, what), 2);
            due.is("all behind", g.unknown(23, what), 2);
            g.sheet(what, (what + 1) % 3, 10);
            due.is("another lane", g.unknown(0, what), 3);
            due.is("another lane, cut short", g.unknown(20, what), 3);
            g.sheet(what, (what + 2) % 3, 0);
            due.is("a third lane, of no cells", g.unknown(0, what), 3);
            due.is("counts as", g.weather(0, what), what == 0 ? 200 : 99);
            g.sheet(what, what, 24);
            due.is("whole", g.unknown(23, what), 0);
        }
        g.sheet(1, 0, 24);
        due.is("each for itself", g.unknown(3, 0), 0);
        due.is("each for itself", g.unknown(3, 1), 3);
        due.is("each for itself", g.unknown(3, 2), 0);
    }

    public static void main(String[] arguments) {
        sheets();
        laying();
        tearing();
        weather();
        unknown();
        due.close();
    }
}
