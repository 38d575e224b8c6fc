/** Promises 13 to 16, sentence by sentence, at their bounds: what steps take, hours of routes, ways. */
public final class WalkBoundsTest {
    private static final int BAD = -1, NONE = -4, BARRED = -5;
    private static final int PATH = 0, ICE = 1, ROCK = 2, SNOW = 8, RIDGE = 14;
    private static final Due due = new Due();

    /** (9 less STRENGTH) divided down by 3, by STRENGTH. */
    private static final int[] SLOW = {3, 2, 2, 2, 1, 1, 1, 0, 0, 0};
    /** HARD times (10 less STRENGTH) divided down by 4, by HARD and by STRENGTH. */
    private static final int[][] CLIMB = {
        {0, 0, 0, 0, 0, 0, 0, 0, 0, 0},
        {2, 2, 2, 1, 1, 1, 1, 0, 0, 0},
        {5, 4, 4, 3, 3, 2, 2, 1, 1, 0},
        {7, 6, 6, 5, 4, 3, 3, 2, 1, 0},
        {10, 9, 8, 7, 6, 5, 4, 3, 2, 1},
        {12, 11, 10, 8, 7, 6, 5, 3, 2, 1},
    };

    /** Step PATH, and of length 2 ICE, both of hard 5; of length 1 and hard 0 to 5 the six from ROCK, SNOW, RIDGE on. */
    private static Scene sorts() {
        Scene scene = Scenes.empty(due).and("place 1", "place 1", "step 0 1 0 1 5 false", "step 0 1 1 2 5 false");
        for (int sort = 2; sort < 5; sort++) {
            scene = scene.times(6, "step 0 1 " + sort + " 1 # false");
        }
        return Scenes.calm(scene);
    }

    private static void takesItsTime() {
        due.terms("PATH (SORT 0): LENGTH and (9 less STRENGTH) divided down by 3.");
        Run path = sorts().start();
        for (int s = 0; s < 10; s++) {
            for (int quarter : new int[] {0, 47, 48, 95}) {
                path.is("takes " + PATH + " " + s + " " + quarter, 1 + SLOW[s]);
            }
        }
        due.terms("ICE (1): as PATH, twice from QUARTER 48 on.");
        Run ice = sorts().start();
        for (int s = 0; s < 10; s++) {
            ice.is("takes " + ICE + " " + s + " 0", 2 + SLOW[s]).is("takes " + ICE + " " + s + " 47", 2 + SLOW[s]);
            ice.is("takes " + ICE + " " + s + " 48", 4 + 2 * SLOW[s]).is("takes " + ICE + " " + s + " 95", 4 + 2 * SLOW[s]);
        }
        due.terms("ROCK (2): as PATH and HARD times (10 less STRENGTH) divided down by 4; that once more, if RAIN is above 0.");
        Run rock = sorts().and("lay 1 5 1", "lay 1 6 0", "lay 1 7 99", "lay 1 8 -1").start();
        for (int hard = 0; hard < 6; hard++) {
            for (int s = 0; s < 10; s++) {
                String takes = "takes " + (ROCK + hard) + " " + s + " ";
                int dry = 1 + SLOW[s] + CLIMB[hard][s];
                rock.is(takes + 95, dry).is(takes + 20, dry + CLIMB[hard][s]).is(takes + 24, dry);
                rock.is(takes + 28, dry + CLIMB[hard][s]).is(takes + 32, dry);
            }
        }
        due.terms("TAKES of a STEP for a STRENGTH (0 to 9) begun in a QUARTER (all by the WEATHER of its HOUR; what is BARRED has none):");
        Run hour = sorts().and("lay 1 5 1", "lay 2 5 61", "lay 0 5 10100").start();
        int[] dry = {2, 7, 1, 1};
        int[] wet = {2, 12, BARRED, BARRED};
        int[] steps = {PATH, ROCK + 5, SNOW, RIDGE};
        int[] strengths = {6, 6, 9, 9};
        for (int i = 0; i < 4; i++) {
            String takes = "takes " + steps[i] + " " + strengths[i] + " ";
            hour.is(takes + 19, dry[i]).is(takes + 20, wet[i]).is(takes + 23, wet[i]).is(takes + 24, dry[i]);
        }
        due.terms("What is UNKNOWN counts as 200, 99, 99.");
        Scene unknown = sorts().and("sheet 0 0 5", "sheet 1 1 5", "sheet 2 2 5");
        unknown.start().is("takes 7 6 19", 7).is("takes 7 6 20", 12).is("takes 8 9 19", 1).is("takes 8 9 20", BARRED)
            .is("takes 14 9 19", 1).is("takes 14 9 20", BARRED).is("takes 0 9 20", 1).is("takes 1 9 20", 2);
    }

    private static void hoursOfQuarters() {
        due.terms("QUARTERS of a day: 0 to 95; the HOUR is the QUARTER divided down by 4.");
        Scene scene = sorts();
        for (int h = 0; h < 24; h++) {
            scene = scene.and("lay 2 " + h + " " + 10 * (h % 5));
        }
        Run run = scene.start();
        for (int quarter = 0; quarter < 96; quarter++) {
            run.is("takes " + SNOW + " 9 " + quarter, (quarter < 48 ? 1 : 2) + quarter / 4 % 5);
        }
        run.is("takes " + SNOW + " 9 96", BAD).is("takes " + SNOW + " 9 -1", BAD);
        due.terms("Divided down is to the next whole number below (or that itself).");
        Run down = sorts().and("lay 2 0 9", "lay 2 1 10", "lay 2 2 11", "lay 0 0 3900", "lay 0 1 4000", "lay 0 2 4100").start();
        down.is("takes 8 9 3", 1).is("takes 8 9 4", 2).is("takes 8 9 8", 2).is("takes 14 9 3", 1).is("takes 14 9 4", 2).is("takes 14 9 8", 2);
        down.is("takes 0 6 0", 2).is("takes 0 7 0", 1).is("takes 0 4 0", 2).is("takes 6 9 0", 2).is("takes 5 9 0", 1).is("takes 3 6 0", 3);
        down.is("takes 3 7 0", 1).is("takes 3 5 0", 3).is("takes 7 7 0", 4);
    }

    private static void takesByWeather() {
        due.terms("SNOW (3): as ICE and SNOW divided down by 10; BARRED, if SNOW and twice HARD together are above 60.");
        for (int hard = 0; hard < 6; hard++) {
            int most = 60 - 2 * hard;
            Scene scene = sorts().and("lay 2 3 " + most, "lay 2 4 " + (most + 1), "lay 2 20 " + most, "lay 2 21 " + (most + 1), "lay 2 5 99");
            String takes = "takes " + (SNOW + hard) + " ";
            Run run = scene.start();
            int deep = hard == 0 ? 6 : 5;
            for (int s = 0; s < 10; s++) {
                run.is(takes + s + " 12", 1 + SLOW[s] + deep).is(takes + s + " 16", BARRED).is(takes + s + " 20", BARRED);
                run.is(takes + s + " 80", 2 + 2 * SLOW[s] + deep).is(takes + s + " 84", BARRED).is(takes + s + " 0", 1 + SLOW[s]);
            }
            scene.and("tear 2").start().is(takes + "9 0", BARRED).is(takes + "0 95", BARRED);
        }
        Run tens = sorts().and("lay 2 0 9", "lay 2 1 10", "lay 2 2 19", "lay 2 3 20", "lay 2 4 49", "lay 2 5 50", "lay 2 12 39").start();
        tens.is("takes 8 9 0", 1).is("takes 8 9 4", 2).is("takes 8 9 8", 2).is("takes 8 9 12", 3).is("takes 8 9 16", 5).is("takes 8 9 20", 6);
        tens.is("takes 8 9 48", 2 + 3).is("takes 13 9 47", 1).is("takes 13 9 52", 2);
        // Neither RAIN nor WIND makes it longer.
        sorts().and("lay 1 5 50", "lay 0 5 15000").start().is("takes 13 0 20", 4);

        due.terms("RIDGE (4): as ROCK and WIND divided down by 40; BARRED, if WIND is above 100 less 10 times HARD.");
        for (int hard = 0; hard < 6; hard++) {
            int most = 100 - 10 * hard;
            int blown = hard < 3 ? 2 : 1;
            Scene scene = sorts().and("lay 0 3 " + 100 * most, "lay 0 4 " + 100 * (most + 1), "lay 0 20 " + (100 * most + 99),
                "lay 0 21 " + 100 * (most + 1), "lay 1 20 1");
            String takes = "takes " + (RIDGE + hard) + " ";
            Run run = scene.start();
            for (int s = 0; s < 10; s++) {
                int time = 1 + SLOW[s] + CLIMB[hard][s];
                run.is(takes + s + " 12", time + blown).is(takes + s + " 16", BARRED).is(takes + s + " 0", time);
                run.is(takes + s + " 80", time + CLIMB[hard][s] + blown).is(takes + s + " 84", BARRED).is(takes + s + " 95", time);
            }
            scene.and("tear 0").start().is(takes + "9 0", BARRED).is(takes + "0 95", BARRED);
        }
        Run forties = sorts().and("lay 0 0 3999", "lay 0 1 4000", "lay 0 2 7999", "lay 0 3 8000", "lay 0 4 -4000").start();
        forties.is("takes 14 9 0", 1).is("takes 14 9 4", 2).is("takes 14 9 8", 2).is("takes 14 9 12", 3).is("takes 14 9 16", 1);
        sorts().and("lay 2 5 99").start().is("takes 14 9 20", 1).is("takes 19 0 20", 16);
    }

    private static void takesBounds() {
        due.says(13, "TAKES.");
        Scene sorts = sorts().and("lay 0 0 20000", "lay 2 0 99", "lay 1 0 5");
        sorts.asks("takes 1 9 47", 2).asks("takes 1 9 48", 4);
        due.says(13, "BAD; BARRED.");
        sorts.refused("takes 8 9 0", BARRED).refused("takes 13 0 3", BARRED).refused("takes 14 9 0", BARRED).refused("takes 19 0 3", BARRED);
        sorts.edges("takes # 9 4", 0, 1, 19, 2, BAD);
        sorts.edges("takes 1 # 4", 0, 5, 9, 2, BAD);
        sorts.edges("takes 1 9 #", 0, 2, 95, 4, BAD);
        // The first that fits: what is BAD is looked at ahead of what is BARRED.
        sorts.edges("takes 14 # 0", 0, BARRED, 9, BARRED, BAD).edges("takes 8 9 #", 0, BARRED, 95, 2, BAD);
        sorts.refused("takes 20 9 0", BAD);
        Scenes.empty(due).refused("takes 0 0 0", BAD);
    }

    /** Places 0 to 6 in a row, step i a path from place i on, step 6 and i a ridge; route r goes by ridge r at its place r, or none does. */
    private static Scene row(boolean ridges) {
        Scene scene = Scenes.empty(due).times(7, "place 1");
        for (int k = 0; k < 12; k++) {
            scene = scene.and("step " + k % 6 + " " + (k % 6 + 1) + " " + (k < 6 ? "0 1 0" : "4 1 5") + " false");
        }
        for (int r = 0; r < 6; r++) {
            scene = scene.and("route " + (ridges && r == 0 ? 6 : 0));
            for (int i = 1; i < 6; i++) {
                scene = scene.and("on " + r + " " + (ridges && i == r ? 6 + i : i));
            }
        }
        return scene;
    }

    private static void hours() {
        due.terms("HOUR of a ROUTE begun in a QUARTER with a STRENGTH: STEP by STEP; each begins when the one ahead ended; "
            + "one that would begin in QUARTER 96 or later is BARRED.");
        Scene paths = Scenes.calm(row(false));
        Run run = paths.start();
        run.is("hour 0 9 0", 6).is("hour 0 9 89", 95).is("hour 0 9 90", 96);
        long[] barred = {-105, -104, -103, -102, -101};
        for (int i = 0; i < 5; i++) {
            run.is("hour 0 9 " + (91 + i), barred[i]);
        }
        run.is("hour 0 0 75", 99).is("hour 0 0 76", -105).is("hour 0 0 79", -105).is("hour 0 0 80", -104).is("hour 0 0 91", -102);
        run.is("hour 0 0 92", -101).is("hour 0 0 95", -101);
        Run late = Scenes.calm(Scenes.empty(due)).and("place 1", "place 1", "step 0 1 0 9 0 false", "route 0").start();
        late.is("hour 0 0 95", 107).is("hour 0 9 95", 104).is("hour 0 9 86", 95).is("hour 0 9 87", 96);

        due.says(14, "HOUR of a ROUTE: the QUARTER in which it ends (may be 96 or more).");
        Scene ridges = row(true);
        due.says(14, "BAD; -100 less i: its STEP i (from 0 on) is BARRED.");
        for (int r = 0; r < 6; r++) {
            ridges.refused("hour " + r + " 9 0", -100 - r);
            ridges.and("sheet 0 0 24", "sheet 1 1 24", "lay 0 0 5000").start().is("hour " + r + " 9 0", 6 + 1 + (r < 4 ? 1 : 0));
            ridges.and("sheet 0 0 24", "sheet 1 1 24", "lay 0 0 5100").start().is("hour " + r + " 9 0", r < 4 ? -100 - r : 7);
        }
        paths.edges("hour # 9 0", 0, 6, 5, 6, BAD);
        paths.edges("hour 0 # 0", 0, 24, 9, 6, BAD);
        paths.edges("hour 0 9 #", 0, 6, 95, -101, BAD);
        ridges.edges("hour # 9 0", 0, -100, 5, -105, BAD);
        ridges.edges("hour 0 # 0", 0, -100, 9, -100, BAD);
        ridges.edges("hour 0 9 #", 0, -100, 95, -100, BAD);
        Scenes.rich(due).edges("hour # 9 0", 0, 10, 1, 6, BAD);
        Scenes.empty(due).refused("hour 0 0 0", BAD);
    }

    private static void lates() {
        due.says(15, "The last QUARTER in which a ROUTE can be begun so that it ends in QUARTER end (0 to 95) or ahead.");
        Scene one = Scenes.calm(Scenes.empty(due)).and("place 1", "place 1", "step 0 1 0 1 0 false", "route 0");
        one.start().is("late 0 9 1", 0).is("late 0 9 2", 1).is("late 0 9 94", 93).is("late 0 0 4", 0).is("late 0 0 95", 91);
        Scene ice = Scenes.calm(Scenes.empty(due)).and("place 1", "place 1", "step 0 1 1 5 0 false", "route 0");
        ice.start().is("late 0 9 5", 0).is("late 0 9 51", 46).is("late 0 9 52", 47).is("late 0 9 53", 47).is("late 0 9 57", 47)
            .is("late 0 9 58", 48).is("late 0 9 59", 49).is("late 0 9 95", 85);
        Scene ridge = Scenes.calm(Scenes.empty(due)).and("place 1", "place 1", "step 0 1 4 1 0 false", "route 0", "lay 0 0 10100", "lay 0 2 10100");
        ridge.start().is("late 0 9 4", NONE).is("late 0 9 5", 4).is("late 0 9 8", 7).is("late 0 9 12", 7).is("late 0 9 13", 12);
        // Begun in quarter 3, in rain, it ends behind where it ends begun in quarter 4.
        Scene rock = Scenes.calm(Scenes.empty(due)).and("place 1", "place 1", "step 0 1 2 1 4 false", "route 0", "lay 1 0 1");
        rock.start().is("late 0 0 24", 3 + 7).is("late 0 0 17", NONE).is("late 0 0 18", 4).is("late 0 0 19", 5);
        due.says(15, "BAD; NONE.");
        one.refused("late 0 9 0", NONE).refused("late 0 0 3", NONE).asks("late 0 9 95", 94);
        ice.refused("late 0 9 4", NONE);
        one.and("step 0 1 0 2 0 false", "route 1").edges("late # 9 95", 0, 94, 1, 93, BAD);
        one.edges("late 0 # 95", 0, 91, 9, 94, BAD);
        one.edges("late 0 9 #", 0, NONE, 95, 94, BAD);
        Scene never = row(true);
        never.edges("late # 9 95", 0, NONE, 5, NONE, BAD).edges("late 0 # 95", 0, NONE, 9, NONE, BAD);
        never.edges("late 0 9 #", 0, NONE, 95, NONE, BAD);
        Scenes.rich(due).refused("late 2 9 95", BAD).refused("late 0 10 95", BAD).refused("late 0 9 96", BAD).refused("late 0 9 0", NONE);
        Scenes.empty(due).refused("late 0 0 95", BAD);
    }

    private static void ways() {
        due.terms("WAY from a PLACE to a PLACE with a STRENGTH from a QUARTER on: along STEPS (from, to), without waiting, the least "
            + "QUARTER in which one can be there, each PLACE being left only in the least QUARTER in which one can be there (0 to 95).");
        Scene chain = Scenes.calm(Scenes.empty(due)).times(5, "place 1")
            .and("step 0 1 0 9 0 false", "step 1 2 0 9 0 false", "step 2 3 0 1 0 false", "step 3 2 0 1 0 false");
        chain.start().is("way 0 3 9 0", 19).is("way 0 3 9 76", 95).is("way 0 2 9 77", 95).is("way 0 1 9 86", 95).is("way 2 3 9 94", 95)
            .is("way 0 0 9 95", 95).is("way 4 4 0 0", 0).is("way 3 3 0 95", 95).is("way 2 3 0 91", 95).is("way 0 3 0 67", 95);
        Scene detour = Scenes.calm(Scenes.empty(due)).times(4, "place 1")
            .and("step 0 2 0 9 0 false", "step 0 1 0 1 0 false", "step 1 2 1 5 0 false", "step 2 3 4 1 0 false");
        detour.start().is("way 0 2 9 46", 52).is("way 0 2 9 47", 56).is("way 0 2 9 48", 57).is("way 0 3 9 46", 53);
        // 2 can be left in quarter 6 alone, begun in 0: in hour 1 the ridge is barred, in hour 2 it would not be.
        Scene barred = detour.and("lay 0 1 10100");
        barred.refused("way 0 3 9 0", NONE).refused("way 0 3 9 1", NONE).asks("way 0 2 9 1", 7);
        barred.start().is("way 0 3 9 2", 9);
        due.says(16, "WAY: the least QUARTER.");
        chain.asks("way 0 3 9 10", 29).asks("way 3 2 9 10", 11);
        due.says(16, "BAD; NONE: none, or in QUARTER 96 or later.");
        chain.refused("way 0 3 9 77", NONE).refused("way 0 2 9 78", NONE).refused("way 0 1 9 87", NONE).refused("way 2 3 9 95", NONE);
        chain.refused("way 2 3 0 92", NONE).refused("way 0 3 0 68", NONE).refused("way 0 3 9 95", NONE);
        chain.refused("way 1 0 9 0", NONE).refused("way 2 1 9 0", NONE).refused("way 0 4 9 0", NONE).refused("way 4 0 9 0", NONE);
        chain.edges("way # 3 9 0", 0, 19, 4, NONE, BAD);
        chain.edges("way 2 # 9 0", 0, NONE, 4, NONE, BAD);
        chain.edges("way 2 3 # 0", 0, 4, 9, 1, BAD);
        chain.edges("way 3 3 9 #", 0, 0, 95, 95, BAD);
        chain.edges("way 0 3 9 #", 0, 19, 95, NONE, BAD);
        chain.edges("way 4 4 # 0", 0, 0, 9, 0, BAD);
        chain.refused("way 5 5 9 0", BAD).refused("way -1 -1 9 0", BAD);
        Scenes.rich(due).refused("way 3 0 9 0", BAD).refused("way 0 3 9 0", BAD).refused("way 0 2 10 0", BAD).refused("way 0 2 9 96", BAD)
            .refused("way 0 2 9 95", NONE);
        Scenes.empty(due).refused("way 0 0 0 0", BAD);
        Scene full = Scenes.full(due);
        full.taken("way 11 11 9 0", 0).refused("way 12 12 9 0", BAD);
    }

    public static void main(String[] arguments) {
        takesItsTime();
        hoursOfQuarters();
        takesByWeather();
        takesBounds();
        hours();
        lates();
        ways();
        due.close();
    }
}
