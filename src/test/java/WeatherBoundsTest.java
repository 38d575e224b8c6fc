/** Promises 8 to 12, sentence by sentence, at their bounds: sheets, cells, the weather read off them. */
public final class WeatherBoundsTest {
    private static final int BAD = -1;
    private static final int NULL = -11, INDEX = -12, SIZE = -14;
    private static final int LEAST = Integer.MIN_VALUE, MOST = Integer.MAX_VALUE;
    private static final Due due = new Due();

    private static void sheets() {
        due.says(8, "A SHEET is a new row of CELLS 0: 1.");
        Run run = Scenes.rich(due).start();
        run.is("weather 5 0", 30).is("weather 6 0", 200).is("weather 5 1", 7).is("weather 5 2", 30);
        run.is("sheet 0 0 24", 1).is("weather 5 0", 0).is("weather 6 0", 0).is("weather 5 1", 7).is("weather 5 2", 30);
        run.is("sheet 2 2 6", 1).is("weather 5 2", 0).is("unknown 5 2", 0).is("unknown 6 2", 2).is("weather 5 1", 7);
        run.is("unknown 20 1", 2).is("sheet 1 1 24", 1).is("unknown 20 1", 0).is("weather 20 1", 0).is("weather 5 1", 0);
        due.terms("SHEETS 0 to 3 are rows of FLOATS (lane 0), SHORTS (1), BYTES (2) with 0 to 24 CELLS, or nothing (at first).");
        for (int k = 0; k < 3; k++) {
            Run cut = Scenes.empty(due).and("sheet " + k + " " + k + " 24", "lay " + k + " 23 300", "lay " + k + " 3 300", "lay " + k + " 0 300").start();
            cut.is("sheet " + k + " " + k + " 3", 1).is("unknown 2 " + k, 0).is("weather 0 " + k, 0).is("unknown 3 " + k, 2).is("unknown 23 " + k, 2);
            cut.is("sheet " + k + " " + k + " 24", 1).is("weather 3 " + k, 0).is("weather 23 " + k, 0).is("unknown 23 " + k, 0);
        }
        Scene empty = Scenes.empty(due);
        empty.edges("sheet # 0 5", 0, 1, 3, 1, BAD);
        empty.edges("sheet 0 # 5", 0, 1, 2, 1, BAD);
        empty.taken("sheet 0 0 0", 1).taken("sheet 0 0 24", 1);
        due.says(8, "BAD: also n above 24; -10 - 4.");
        for (Scene scene : new Scene[] {empty, Scenes.rich(due)}) {
            for (int k = 0; k < 4; k++) {
                String sheet = "sheet " + k + " " + k % 3 + " ";
                scene.taken(sheet + 24, 1).taken(sheet + 0, 1);
                scene.refused(sheet + 25, BAD).refused(sheet + MOST, BAD).refused(sheet + -1, SIZE).refused(sheet + LEAST, SIZE);
            }
            scene.edges("sheet # 1 0", 0, 1, 3, 1, BAD);
            scene.edges("sheet 1 # 24", 0, 1, 2, 1, BAD);
            // The first that fits: what is BAD is looked at ahead of the SIZE.
            scene.refused("sheet 4 0 -1", BAD).refused("sheet -1 0 -1", BAD);
            scene.refused("sheet 0 3 -1", BAD).refused("sheet 0 -1 -1", BAD).refused("sheet 0 3 " + LEAST, BAD);
        }
    }

    private static void laying() {
        due.says(9, "CELL i of a SHEET becomes v by 100 (lane 0; v 2000000000: no number), or v (its lowest bits): 1.");
        due.terms("A FLOAT that is no number is 200, else it is cut to a whole number towards 0, held to 0 to 200; "
            + "SHORTS, BYTES are held to 0 to 99.");
        int[][] floats = {{0, 0}, {1, 0}, {99, 0}, {100, 1}, {199, 1}, {200, 2}, {-1, 0}, {-99, 0}, {-100, 0}, {-101, 0}, {19899, 198},
            {19900, 199}, {19999, 199}, {20000, 200}, {20001, 200}, {20099, 200}, {20100, 200}, {1999999999, 200},
            {2000000000, 200}, {2000000001, 200}, {-2000000000, 0}, {LEAST, 0}, {MOST, 200}};
        cells(0, floats);
        int[][] shorts = {{0, 0}, {1, 1}, {98, 98}, {99, 99}, {100, 99}, {127, 99}, {128, 99}, {255, 99}, {256, 99}, {32767, 99},
            {32768, 0}, {65535, 0}, {65536, 0}, {65537, 1}, {65536 + 99, 99}, {65536 + 98, 98}, {-1, 0}, {-32768, 0}, {-32769, 99},
            {-65535, 1}, {2000000000, 0}, {LEAST, 0}, {MOST, 0}, {MOST - 65535 + 98, 98}};
        cells(1, shorts);
        int[][] bytes = {{0, 0}, {1, 1}, {98, 98}, {99, 99}, {100, 99}, {127, 99}, {128, 0}, {255, 0}, {256, 0}, {257, 1}, {256 + 98, 98},
            {256 + 99, 99}, {-1, 0}, {-128, 0}, {-129, 99}, {-255, 1}, {65536, 0}, {65537, 1}, {2000000000, 0}, {LEAST, 0}, {MOST, 0}};
        cells(2, bytes);
        Run run = Scenes.rich(due).start();
        run.is("lay 0 5 1200", 1).is("weather 5 0", 12).is("weather 4 0", 0).is("weather 6 0", 200).is("weather 5 1", 7);

        due.says(9, "BAD: k; -10 less the FAULT: NULL, INDEX.");
        Scene rich = Scenes.rich(due);
        rich.edges("lay # 0 300", 0, 1, 3, 1, BAD);
        rich.edges("lay 0 # 300", 0, 1, 23, 1, INDEX);
        rich.edges("lay 1 # 300", 0, 1, 19, 1, INDEX);
        rich.edges("lay 2 # 300", 0, 1, 23, 1, INDEX);
        rich.edges("lay 3 # 300", 0, 1, 4, 1, INDEX);
        rich.refused("lay 4 -1 300", BAD).refused("lay -1 24 300", BAD);
        for (int k = 0; k < 4; k++) {
            Scene torn = rich.and("tear " + k);
            torn.refused("lay " + k + " 0 300", NULL).refused("lay " + k + " -1 300", NULL).refused("lay " + k + " 24 300", NULL);
            Scene none = rich.and("sheet " + k + " 1 0");
            none.refused("lay " + k + " 0 300", INDEX).refused("lay " + k + " -1 300", INDEX).refused("lay " + k + " 1 300", INDEX);
            rich.and("sheet " + k + " 2 1").edges("lay " + k + " # 300", 0, 1, 0, 1, INDEX);
        }
        Scenes.empty(due).refused("lay 0 0 1", NULL).refused("lay 3 0 1", NULL).refused("lay 4 0 1", BAD).refused("lay -1 0 1", BAD);
    }

    /** What is laid on a sheet of its lane, and the weather that it is. */
    private static void cells(int what, int[][] laid) {
        Run run = Scenes.calm(Scenes.empty(due)).start();
        for (int i = 0; i < laid.length; i++) {
            int hour = i % 24;
            run.is("lay " + what + " " + hour + " " + laid[i][0], 1);
            due.is(laid[i][0] + " laid, weather", run.call("weather " + hour + " " + what), laid[i][1]);
            run.is("unknown " + hour + " " + what, 0).is("weather " + (hour + 1) % 24 + " " + (what + 1) % 3, 0);
        }
    }

    private static void tearing() {
        due.says(10, "SHEET k is nothing: whether it was something (1, 0).");
        Scene empty = Scenes.empty(due);
        for (int k = 0; k < 4; k++) {
            empty.refused("tear " + k, 0);
            for (int lane = 0; lane < 3; lane++) {
                for (int n : new int[] {0, 1, 24}) {
                    Run run = empty.and("sheet " + k + " " + lane + " " + n).start();
                    run.is("tear " + k, 1).is("lay " + k + " 0 1", NULL).is("tear " + k, 0).is("tear " + k, 0);
                }
            }
        }
        Run run = Scenes.rich(due).start();
        run.is("tear 0", 1).each("unknown 5 #", 1, 0, 0).is("tear 2", 1).each("unknown 5 #", 1, 0, 1).is("tear 1", 1);
        run.each("unknown 5 #", 1, 1, 1).is("lay 3 0 1", 1).is("tear 3", 1).is("lay 3 0 1", NULL).each("tear #", 0, 0, 0, 0);
        due.says(10, "BAD.");
        empty.edges("tear #", 0, 0, 3, 0, BAD);
        Scenes.rich(due).edges("tear #", 0, 1, 3, 1, BAD);
        Scenes.rich(due).and("tear 1").asks("tear 1", 0);
    }

    private static void weather() {
        due.says(11, "WEATHER of an HOUR (0 to 23): 0 WIND, 1 RAIN, 2 SNOW.");
        Scene rich = Scenes.rich(due);
        rich.start().each("weather 5 #", 30, 7, 30, BAD).each("weather 6 #", 200, 0, 0).each("weather 20 #", 0, 99, 0);
        due.terms("WEATHER of an HOUR: WIND (0 to 200), RAIN (0 to 99), SNOW (0 to 99).");
        Run ends = Scenes.calm(Scenes.empty(due)).start();
        ends.does("lay 0 0 20000", "lay 1 0 99", "lay 2 0 99", "lay 0 23 20000", "lay 1 23 99", "lay 2 23 99");
        ends.each("weather 0 #", 200, 99, 99).each("weather 1 #", 0, 0, 0).each("weather 22 #", 0, 0, 0).each("weather 23 #", 200, 99, 99);
        due.terms("WIND is of SHEET 0 taken as of FLOATS, RAIN of SHEET 1 as of SHORTS, SNOW of SHEET 2 as of BYTES, CELL h for HOUR h.");
        for (int what = 0; what < 3; what++) {
            Run run = Scenes.calm(Scenes.empty(due)).start();
            for (int h = 0; h < 24; h++) {
                run.is("lay " + what + " " + h + " " + (what == 0 ? 100 * h : h), 1);
            }
            for (int h = 0; h < 24; h++) {
                run.is("weather " + h + " " + what, h).is("weather " + h + " " + (what + 1) % 3, 0);
            }
        }
        // SHEET 3 is of no weather, of whatever lane it is.
        for (int lane = 0; lane < 3; lane++) {
            Run run = Scenes.empty(due).and("sheet 3 " + lane + " 24", "lay 3 5 50").start();
            run.each("weather 5 #", 200, 99, 99).each("unknown 5 #", 1, 1, 1);
        }
        due.terms("What is UNKNOWN counts as 200, 99, 99.");
        for (String call : new String[] {"tear #", "sheet # 0 0", "sheet # 1 0", "sheet # 2 0"}) {
            for (int what = 0; what < 3; what++) {
                Run run = Scenes.calm(Scenes.empty(due)).and(call.replace("#", "" + what)).start();
                run.is("weather 0 " + what, what == 0 ? 200 : 99).is("weather 23 " + what, what == 0 ? 200 : 99);
                run.is("weather 0 " + (what + 1) % 3, 0).is("weather 0 " + (what + 2) % 3, 0);
            }
        }
        due.says(11, "BAD.");
        rich.edges("weather # 1", 0, 0, 23, 99, BAD).edges("weather 5 #", 0, 30, 2, 30, BAD).edges("weather # 0", 0, 0, 23, 0, BAD);
        rich.refused("weather 24 3", BAD).asks("weather 5 0", 30).asks("weather 23 1", 99);
        Scenes.empty(due).edges("weather # 0", 0, 200, 23, 200, BAD).edges("weather 0 #", 0, 200, 2, 99, BAD);
    }

    private static void unknown() {
        due.terms("What the machine refuses there makes WEATHER of that HOUR UNKNOWN by it, and of all HOURS behind: "
            + "WIND, RAIN, SNOW each for itself; FAULTS: 1 NULL (nothing), 2 INDEX, 3 CAST (another lane), 4 SIZE (below 0).");
        for (int what = 0; what < 3; what++) {
            for (int n : new int[] {0, 1, 12, 23, 24}) {
                Scene scene = Scenes.calm(Scenes.empty(due)).and("sheet " + what + " " + what + " " + n);
                Run run = scene.start();
                for (int h = 0; h < 24; h++) {
                    run.is("unknown " + h + " " + what, h < n ? 0 : 2).is("weather " + h + " " + what, h < n ? 0 : what == 0 ? 200 : 99);
                    run.is("unknown " + h + " " + (what + 1) % 3, 0).is("unknown " + h + " " + (what + 2) % 3, 0);
                }
                for (int other = 1; other < 3; other++) {
                    Run cast = scene.and("sheet " + what + " " + (what + other) % 3 + " " + n).start();
                    cast.is("unknown 0 " + what, 3).is("unknown 23 " + what, 3).is("weather 0 " + what, what == 0 ? 200 : 99);
                    cast.is("unknown 0 " + (what + 1) % 3, 0).is("unknown 23 " + (what + 2) % 3, 0);
                }
                Run none = scene.and("tear " + what).start();
                none.is("unknown 0 " + what, 1).is("unknown 23 " + what, 1).is("unknown 0 " + (what + 1) % 3, 0);
            }
        }
        due.says(12, "The FAULT by which it is UNKNOWN (0: it is not).");
        Scene rich = Scenes.rich(due);
        rich.asks("unknown 19 1", 0).asks("unknown 20 1", 2).asks("unknown 23 1", 2).asks("unknown 6 0", 0);
        due.says(12, "BAD.");
        rich.edges("unknown # 1", 0, 0, 23, 2, BAD).edges("unknown # 0", 0, 0, 23, 0, BAD);
        rich.and("sheet 2 1 3", "tear 0").edges("unknown 20 #", 0, 1, 2, 3, BAD);
        Scenes.empty(due).edges("unknown # 2", 0, 1, 23, 1, BAD).edges("unknown 0 #", 0, 1, 2, 1, BAD);
    }

    public static void main(String[] arguments) {
        sheets();
        laying();
        tearing();
        weather();
        unknown();
        due.close();
    }
}
