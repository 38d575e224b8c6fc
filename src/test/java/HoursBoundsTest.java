/** Promises 40 to 43, sentence by sentence, at their bounds: entries, grades, what is over, pieces. */
public final class HoursBoundsTest {
    private static final int BAD = -1, FULL = -3;
    private static final long BAD_GRADE = -1000000000000L, NO_GRADE = -1000000000004L;
    private static final Due due = new Due();

    private static Scene with(int routes, int guides) {
        return Scenes.empty(due).and("place 0", "place 0", "step 0 1 0 1 0 false").times(routes, "route 0").times(guides, "guide 0 0 0");
    }

    /** For an edge whose refusal is longer than an int. */
    private static void edges(Scene scene, String call, int least, long wantLeast, int most, long wantMost) {
        scene.edges(call, least, wantLeast, most, wantMost, BAD_GRADE);
    }

    private static void entries() {
        due.says(40, "An entry: its number.");
        due.terms("HOURS (14): entries of a ROUTE, a GUIDE, how many QUARTERS it took.");
        Run run = with(6, 8).start();
        for (int i = 0; i < 14; i++) {
            run.is("entry " + i % 6 + " " + i % 8 + " " + (1 + 7 * i), i).is("count 7", i + 1);
        }
        run.is("entry 0 0 1", FULL).is("count 7", 14);
        due.says(40, "BAD: also QUARTERS not 1 to 95; FULL.");
        Scene all = with(6, 8);
        all.edges("entry # 0 1", 0, 0, 5, 0, BAD).edges("entry 0 # 1", 0, 0, 7, 0, BAD).edges("entry 0 0 #", 1, 0, 95, 0, BAD);
        Scene rich = Scenes.rich(due);
        rich.edges("entry # 0 1", 0, 4, 1, 4, BAD).edges("entry 0 # 1", 0, 4, 4, 4, BAD).edges("entry 0 0 #", 1, 4, 95, 4, BAD);
        all.times(13, "entry 0 0 5").taken("entry 5 7 95", 13).refused("entry 6 0 1", BAD);
        Scene full = Scenes.full(due);
        full.refused("entry 0 0 1", FULL).refused("entry 5 7 95", FULL);
        full.refused("entry -1 0 1", BAD).refused("entry 6 0 1", BAD).refused("entry 0 -1 1", BAD).refused("entry 0 8 1", BAD)
            .refused("entry 0 0 0", BAD).refused("entry 0 0 96", BAD);
        with(1, 0).refused("entry 0 0 1", BAD);
        with(0, 1).refused("entry 0 0 1", BAD);
        Scenes.empty(due).refused("entry 0 0 1", BAD);
    }

    private static void grades() {
        due.says(41, "Of GRADES: of a ROUTE (sort 0), a GUIDE (1): what 0 the numerator, 1 the denominator, in lowest terms (above 0).");
        due.terms("GRADES: for ROUTES x, for GUIDES y with the least sum of squares of (x and y less QUARTERS) over all entries; in each PIECE "
            + "(ROUTES, GUIDES that hang together by entries) y of the least GUIDE is 0; exact fractions; a ROUTE, GUIDE without entries has none.");
        Scene one = with(6, 8).and("entry 5 7 95");
        one.start().is("grade 0 5 0", 95).is("grade 0 5 1", 1).is("grade 1 7 0", 0).is("grade 1 7 1", 1).is("grade 0 4 0", NO_GRADE)
            .is("grade 1 6 1", NO_GRADE).is("over 0 0", 0).is("over 0 1", 1);
        Scene mean = with(6, 8).and("entry 5 7 95", "entry 5 7 1");
        mean.start().each("grade 0 5 #", 48, 1).each("over 0 #", 47, 1).each("over 1 #", -47, 1).is("pieces", 1);
        mean.and("entry 5 7 1").start().each("grade 0 5 #", 97, 3).each("over 0 #", 188, 3).each("over 2 #", -94, 3).each("grade 1 7 #", 0, 1);
        with(1, 1).times(14, "entry 0 0 1").start().each("grade 0 0 #", 1, 1).each("over 13 #", 0, 1);
        with(1, 1).times(13, "entry 0 0 1").and("entry 0 0 2").start().each("grade 0 0 #", 15, 14).each("over 13 #", 13, 14).each("over 0 #", -1, 14);
        with(1, 1).times(13, "entry 0 0 1").and("entry 0 0 95").start().each("grade 0 0 #", 54, 7).each("over 13 #", 611, 7);
        Scene below = with(1, 2).and("entry 0 0 95", "entry 0 1 1");
        below.start().each("grade 0 0 #", 95, 1).each("grade 1 1 #", -94, 1).each("grade 1 0 #", 0, 1).each("over 1 #", 0, 1);
        with(1, 2).and("entry 0 1 1", "entry 0 0 95").start().each("grade 0 0 #", 95, 1).each("grade 1 1 #", -94, 1);
        // The least GUIDE that has entries in the PIECE is 0, not the least of all, not the first to come.
        with(2, 8).and("entry 0 7 10", "entry 0 3 20", "entry 1 5 9").start().each("grade 0 0 #", 20, 1).each("grade 1 7 #", -10, 1)
            .each("grade 1 3 #", 0, 1).each("grade 0 1 #", 9, 1).each("grade 1 5 #", 0, 1).is("grade 1 0 0", NO_GRADE).is("pieces", 2);
        // Four entries of two and two, of which one is 4 off: 1 over at each.
        with(2, 2).and("entry 0 0 10", "entry 0 1 13", "entry 1 0 20", "entry 1 1 27").start().each("grade 0 0 #", 9, 1).each("grade 0 1 #", 21, 1)
            .each("grade 1 1 #", 5, 1).each("over 0 #", 1, 1).each("over 1 #", -1, 1).each("over 2 #", -1, 1).each("over 3 #", 1, 1);
        Scenes.full(due).start().is("pieces", 2);
        // As all is now: what was asked ahead of an entry is asked anew behind it.
        Run run = with(2, 2).start();
        run.is("entry 0 0 10", 0).each("grade 0 0 #", 10, 1).is("entry 0 0 13", 1).each("grade 0 0 #", 23, 2).each("over 0 #", -3, 2);
        run.is("entry 0 1 13", 2).each("grade 0 0 #", 23, 2).each("grade 1 1 #", 3, 2).is("entry 1 1 20", 3).each("grade 0 1 #", 37, 2);
        run.is("entry 1 0 20", 4).each("grade 0 0 #", 82, 7).each("grade 0 1 #", 137, 7).each("grade 1 1 #", 6, 7)
            .each("over 0 #", -12, 7).each("over 1 #", 9, 7).each("over 4 #", 3, 7);

        // All ROUTES and GUIDES in one PIECE, as many entries as there may be: a ring of twelve, and two that hang on it.
        Scene ring = with(6, 8).and("entry 0 7 95", "entry 0 6 1", "entry 1 6 17", "entry 1 5 60", "entry 2 5 33", "entry 2 4 94", "entry 3 4 5",
            "entry 3 3 71", "entry 4 3 2", "entry 4 2 88", "entry 5 2 40", "entry 5 1 9", "entry 0 0 50", "entry 5 7 95");
        ring.start().is("pieces", 1).each("grade 0 # 0", 50, 613, 334, 117, 77, 83, BAD_GRADE).each("grade 0 # 1", 1, 6, 3, 2, 3, 6, BAD_GRADE)
            .each("grade 1 # 0", 0, -29, 177, -67, -425, -241, -805, 757, BAD_GRADE).each("grade 1 # 1", 1, 6, 4, 12, 12, 4, 12, 12, BAD_GRADE)
            .each("over # 0", -217, 217, -217, 217, -217, 217, -217, 217, -217, 217, -217, 0, 0, 217, BAD_GRADE)
            .each("over # 1", 12, 12, 12, 12, 12, 12, 12, 12, 12, 12, 12, 1, 1, 12, BAD_GRADE);

        due.says(41, "BAD -1000000000000L; -1000000000004L: no entries.");
        Scene rich = Scenes.rich(due);
        edges(rich, "grade # 1 0", 0, 17, 1, 3);
        edges(rich, "grade 0 # 0", 0, 10, 1, 17);
        edges(rich, "grade 1 # 0", 0, 0, 4, NO_GRADE);
        edges(rich, "grade 0 1 #", 0, 17, 1, 1);
        edges(rich, "grade 1 4 #", 0, NO_GRADE, 1, NO_GRADE);
        rich.refused("grade 1 2 0", NO_GRADE).asks("grade 1 3 0", -12).refused("grade 1 4 2", BAD_GRADE).refused("grade 2 4 0", BAD_GRADE)
            .refused("grade 0 4 0", BAD_GRADE);
        edges(with(6, 8), "grade 0 # 1", 0, NO_GRADE, 5, NO_GRADE);
        edges(with(6, 8), "grade 1 # 1", 0, NO_GRADE, 7, NO_GRADE);
        with(6, 8).refused("grade 0 6 0", BAD_GRADE).refused("grade 0 7 0", BAD_GRADE).refused("grade 0 0 2", BAD_GRADE);
        one.asks("grade 0 5 0", 95).refused("grade 0 0 0", NO_GRADE).refused("grade 1 0 1", NO_GRADE);
        Scenes.empty(due).refused("grade 0 0 0", BAD_GRADE).refused("grade 1 0 0", BAD_GRADE).refused("grade 0 -1 0", BAD_GRADE);
    }

    private static void over() {
        due.says(42, "What is over of an entry: QUARTERS less x and y: likewise.");
        Scene rich = Scenes.rich(due);
        rich.and("entry 1 0 19").start().each("over 4 #", 1, 2).each("over 0 #", -1, 2).each("over 1 #", 1, 2).each("over 2 #", -1, 2).each("over 3 #", 0, 1);
        due.says(42, "BAD likewise.");
        edges(rich, "over # 1", 0, 1, 3, 1);
        edges(rich, "over 3 #", 0, 0, 1, 1);
        rich.refused("over 4 2", BAD_GRADE).asks("over 0 0", 0);
        Scene full = Scenes.full(due);
        full.start().is("over 14 0", BAD_GRADE).is("over 14 1", BAD_GRADE);
        full.refused("over 14 0", BAD_GRADE).refused("over -1 0", BAD_GRADE).refused("over 13 2", BAD_GRADE);
        with(1, 1).refused("over 0 0", BAD_GRADE).and("entry 0 0 7").edges("over # 0", 0, 0, 0, 0, BAD_GRADE);
        Scenes.empty(due).refused("over 0 0", BAD_GRADE);
    }

    private static void pieces() {
        due.says(43, "How many PIECES there are (of ROUTES and GUIDES with entries).");
        Scenes.empty(due).asks("pieces", 0);
        with(6, 8).asks("pieces", 0);
        Run run = with(6, 8).start();
        for (int i = 0; i < 6; i++) {
            run.is("entry " + i + " " + (7 - i) + " 9", i).is("pieces", i + 1);
        }
        run.is("entry 0 7 9", 6).is("pieces", 6).is("entry 0 0 9", 7).is("pieces", 6).is("entry 5 7 9", 8).is("pieces", 5);
        run.is("entry 1 0 9", 9).is("pieces", 4).is("entry 2 1 9", 10).is("entry 3 1 9", 11).is("pieces", 3).is("entry 4 7 9", 12).is("pieces", 2);
        run.is("entry 4 5 9", 13).is("pieces", 1).is("entry 0 0 9", FULL).is("pieces", 1);
        Scenes.rich(due).asks("pieces", 1);
        // Chains that are told from their far end: what comes first hangs together last.
        Scene chain = with(6, 8).and("entry 5 7 1", "entry 5 6 2", "entry 4 6 3", "entry 4 5 4", "entry 3 5 5", "entry 3 4 6", "entry 2 4 7",
            "entry 2 3 8", "entry 1 3 9", "entry 1 2 10", "entry 0 2 11");
        chain.start().is("pieces", 1).is("entry 0 1 12", 11).is("pieces", 1).is("grade 1 1 0", 0).is("grade 0 0 0", 12).is("grade 1 2 0", -1)
            .is("grade 0 1 0", 11).is("grade 1 7 0", -6).is("grade 0 5 0", 7).is("grade 1 7 1", 1).is("over 0 0", 0);
    }

    public static void main(String[] arguments) {
        entries();
        grades();
        over();
        pieces();
        due.close();
    }
}
