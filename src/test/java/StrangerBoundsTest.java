/** Promises 31 to 33, sentence by sentence, at their bounds: people, wishes, ropings. */
public final class StrangerBoundsTest {
    private static final int BAD = -1, FULL = -3, BAD_WISH = -100, BAD_ROPING = -1000, NO_ROPING = -1004;
    private static final Due due = new Due();

    private static Scene people(int... strengths) {
        Scene scene = Scenes.empty(due);
        for (int strength : strengths) {
            scene = scene.and("person " + strength);
        }
        return scene;
    }

    private static Scene alike(int n, int strength) {
        return Scenes.empty(due).times(n, "person " + strength);
    }

    private static void persons() {
        due.says(31, "A PERSON: its number.");
        Run run = new Run(due);
        for (int i = 0; i < 9; i++) {
            run.is("person " + i, i).is("count 5", i + 1);
        }
        due.terms("PEOPLE (9) with STRENGTHS (0 to 9) and WISHES for one another (-9 to 9 each way; 0 at first).");
        run.is("person 9", FULL).is("count 5", 9);
        for (int a = 0; a < 9; a++) {
            for (int b = 0; b < 9; b++) {
                run.is("wish " + a + " " + b + " 1", a == b ? BAD_WISH : 0);
            }
        }
        due.says(31, "BAD; FULL.");
        Scenes.empty(due).edges("person #", 0, 0, 9, 0, BAD);
        Scenes.rich(due).edges("person #", 0, 5, 9, 5, BAD);
        alike(8, 4).edges("person #", 0, 8, 9, 8, BAD);
        Scenes.full(due).refused("person 0", FULL).refused("person 9", FULL).refused("person -1", BAD).refused("person 10", BAD);
    }

    private static void wishes() {
        due.says(32, "A WISH of a for b becomes v: what it was.");
        Run run = people(1, 2, 3).start();
        run.is("wish 0 1 9", 0).is("wish 0 1 -9", 9).is("wish 0 1 0", -9).is("wish 0 1 1", 0).is("wish 1 0 2", 0).is("wish 0 1 3", 1);
        run.is("wish 1 0 4", 2).is("wish 2 1 5", 0).is("wish 1 2 6", 0).is("wish 0 2 7", 0).is("wish 2 0 8", 0).is("wish 2 1 0", 5);
        run.is("roping 0 0", 3 + 4 + 6 + 7 + 8);
        due.says(32, "BAD -100: also one and the same.");
        Scene rich = Scenes.rich(due);
        rich.edges("wish 0 1 #", -9, 4, 9, 4, BAD_WISH);
        rich.edges("wish # 3 1", 0, 0, 4, 0, BAD_WISH);
        rich.edges("wish 3 # 1", 0, 0, 4, 0, BAD_WISH);
        for (int p = 0; p < 5; p++) {
            rich.refused("wish " + p + " " + p + " 0", BAD_WISH).refused("wish " + p + " " + p + " 9", BAD_WISH);
        }
        rich.refused("wish 5 5 1", BAD_WISH).refused("wish -1 -1 1", BAD_WISH).asks("wish 0 1 4", 4);
        Scenes.full(due).edges("wish # 3 1", 0, 0, 8, 0, BAD_WISH).edges("wish 3 # 1", 0, 0, 8, 0, BAD_WISH);
        Scenes.empty(due).refused("wish 0 1 1", BAD_WISH).and("person 1").refused("wish 0 0 1", BAD_WISH).refused("wish 0 1 1", BAD_WISH);
    }

    /** The worth of the roping with LEAST, and its ropes as bits; or NO_ROPING alone. */
    private static void ropes(Scene scene, int least, int worth, int... ropes) {
        Run run = scene.start();
        run.is("roping " + least + " 0", worth).is("roping " + least + " 1", worth == NO_ROPING ? NO_ROPING : ropes.length);
        for (int rope : ropes) {
            for (int p = 0; p < 9; p++) {
                if ((rope >> p & 1) == 1) {
                    run.is("roping " + least + " " + (10 + p), rope);
                }
            }
        }
    }

    private static void ropings() {
        due.terms("ROPING: all are put into ropes of two or three so that the sum of STRENGTHS of each is at least LEAST (0 to 30);");
        ropes(alike(1, 9), 0, NO_ROPING);
        ropes(alike(2, 0), 0, 0, 3);
        ropes(alike(3, 0), 0, 0, 7);
        ropes(alike(4, 0), 0, 0, 3, 12);
        ropes(alike(5, 0), 0, 0, 3, 28);
        ropes(alike(6, 0), 0, 0, 3, 12, 48);
        ropes(alike(7, 0), 0, 0, 3, 12, 112);
        ropes(alike(8, 0), 0, 0, 3, 12, 48, 192);
        ropes(alike(9, 0), 0, 0, 3, 12, 48, 448);
        ropes(people(4, 5), 9, 0, 3);
        ropes(people(4, 5), 10, NO_ROPING);
        ropes(people(4, 5, 0), 9, 0, 7);
        ropes(people(4, 5, 0), 10, NO_ROPING);
        ropes(people(1, 2, 3, 4), 5, 0, 9, 6);
        ropes(people(1, 2, 3, 4), 6, NO_ROPING);
        ropes(people(9, 9, 0, 0, 0), 9, 0, 5, 26);
        ropes(people(9, 9, 0, 0, 0), 10, NO_ROPING);
        ropes(alike(9, 9), 18, 0, 3, 12, 48, 448);
        ropes(alike(9, 9), 19, 0, 7, 56, 448);
        ropes(alike(9, 9), 27, 0, 7, 56, 448);
        ropes(alike(9, 9), 28, NO_ROPING);
        ropes(alike(9, 9), 30, NO_ROPING);
        ropes(alike(8, 9), 19, NO_ROPING);
        ropes(alike(6, 9), 19, 0, 7, 56);
        ropes(alike(3, 9), 27, 0, 7);
        // Whoever wishes what: where a rest can not be roped there is no roping.
        Scene apart = people(5, 5, 5, 0).and("wish 0 1 9", "wish 1 0 9", "wish 2 3 9", "wish 3 2 9");
        ropes(apart, 6, NO_ROPING);
        ropes(apart, 5, 36, 3, 12);
        ropes(people(9).and("wish 0 0 9"), 0, NO_ROPING);
        Scene dear = people(9, 9, 0, 0).and("wish 0 1 9", "wish 1 0 9", "wish 0 2 -9");
        ropes(dear, 0, 18, 3, 12);
        ropes(dear, 1, 0, 9, 6);
        ropes(dear, 9, 0, 9, 6);
        ropes(dear, 10, NO_ROPING);

        due.terms("WORTH of it: the sum of all WISHES (both ways) within ropes; the greatest, of several the one whose ropes by their least "
            + "PERSONS are in order of bits the least first (the rope of PERSON 0 as bits, then that of the least one left, ..: the least "
            + "number at the first place).");
        Scene most = alike(9, 5);
        Scene least = alike(9, 5);
        for (int a = 0; a < 9; a++) {
            for (int b = 0; b < 9; b++) {
                most = a == b ? most : most.and("wish " + a + " " + b + " 9");
                least = a == b ? least : least.and("wish " + a + " " + b + " -9");
            }
        }
        ropes(most, 0, 162, 7, 56, 448);
        ropes(least, 0, -108, 3, 12, 48, 448);
        ropes(least, 11, -162, 7, 56, 448);
        ropes(alike(4, 5).and("wish 0 1 1"), 0, 1, 3, 12);
        ropes(alike(4, 5).and("wish 1 0 -1"), 0, 0, 5, 10);
        ropes(alike(4, 5).and("wish 0 1 -1", "wish 2 0 -1"), 0, 0, 9, 6);
        ropes(alike(4, 5).and("wish 0 1 3", "wish 1 0 -3"), 0, 0, 3, 12);
        ropes(alike(4, 5).and("wish 3 2 -2", "wish 1 3 -2"), 0, 0, 9, 6);
        // 7 with 24 is of one worth with 25 with 6: the rope of PERSON 0 is looked at first.
        ropes(alike(5, 5).and("wish 1 2 3", "wish 3 4 3"), 0, 6, 7, 24);
        ropes(alike(5, 5).and("wish 0 4 1", "wish 1 2 1"), 0, 2, 17, 14);
        ropes(alike(6, 5).and("wish 0 1 -1"), 0, 0, 5, 10, 48);
        ropes(alike(6, 5).and("wish 2 3 -1"), 0, 0, 3, 20, 40);
        ropes(alike(7, 5).and("wish 4 5 -1", "wish 4 6 -1"), 0, 0, 3, 20, 104);
        ropes(alike(8, 5).and("wish 0 1 -1", "wish 0 2 -1", "wish 0 3 -1", "wish 0 4 -1", "wish 0 5 -1", "wish 0 6 -1"), 0, 0, 129, 6, 24, 96);
    }

    private static void ropingBounds() {
        due.says(33, "ROPING with LEAST: what 0 its WORTH, 1 how many ropes, 10 and p: the rope of PERSON p (bits).");
        Scene nine = alike(9, 5).and("wish 0 8 4");
        nine.start().each("roping 0 1#", 257, 6, 6, 24, 24, 224, 224, 224, 257, BAD_ROPING).is("roping 0 0", 4).is("roping 0 1", 4);
        nine.start().each("roping 15 1#", 259, 259, 28, 28, 28, 224, 224, 224, 259, BAD_ROPING).is("roping 15 0", 4).is("roping 15 1", 3);
        due.says(33, "BAD -1000; -1004: there is none.");
        nine.edges("roping # 0", 0, 4, 30, NO_ROPING, BAD_ROPING);
        nine.edges("roping 0 #", 0, 4, 18, 257, BAD_ROPING);
        for (int what = 2; what < 10; what++) {
            nine.refused("roping 0 " + what, BAD_ROPING);
        }
        nine.asks("roping 0 1", 4).asks("roping 0 10", 257).refused("roping 0 20", BAD_ROPING);
        nine.refused("roping 16 0", NO_ROPING).refused("roping 16 1", NO_ROPING).refused("roping 16 18", NO_ROPING).asks("roping 15 18", 259);
        nine.refused("roping 16 19", BAD_ROPING).refused("roping 16 2", BAD_ROPING).refused("roping 31 18", BAD_ROPING);
        Scene rich = Scenes.rich(due);
        rich.edges("roping 0 #", 0, 10, 14, 28, BAD_ROPING).refused("roping 30 15", BAD_ROPING).refused("roping 30 14", NO_ROPING);
        Scene one = alike(1, 9);
        one.edges("roping # 0", 0, NO_ROPING, 30, NO_ROPING, BAD_ROPING).edges("roping 0 #", 0, NO_ROPING, 10, NO_ROPING, BAD_ROPING);
        one.and("person 0").edges("roping 0 #", 0, 0, 11, 3, BAD_ROPING).edges("roping # 11", 0, 3, 30, NO_ROPING, BAD_ROPING);
        Scenes.empty(due).refused("roping 0 10", BAD_ROPING).refused("roping 0 9", BAD_ROPING).refused("roping -1 0", BAD_ROPING)
            .refused("roping 31 1", BAD_ROPING).refused("roping 0 2", BAD_ROPING).refused("roping 0 -1", BAD_ROPING);
    }

    public static void main(String[] arguments) {
        persons();
        wishes();
        ropings();
        ropingBounds();
        due.close();
    }
}
