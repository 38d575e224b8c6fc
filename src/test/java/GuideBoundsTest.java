/** Promises 17 to 21, 29 and 30, sentence by sentence, at their bounds: guides, the list, the day, turns. */
public final class GuideBoundsTest {
    private static final int BAD = -1, STATE = -2, FULL = -3, NONE = -4;
    private static final int LEAST = Integer.MIN_VALUE, MOST = Integer.MAX_VALUE;
    private static final Due due = new Due();

    /** Route 0 of hard 3, route 1 of hard 0, route 2 of hard 5, calm. */
    private static Scene routes() {
        return Scenes.calm(Scenes.empty(due)).and("place 1", "place 1", "step 0 1 2 5 3 false", "step 0 1 0 1 0 false",
            "step 0 1 0 1 5 false", "route 0", "route 1", "route 2");
    }

    private static void guides() {
        due.says(17, "A GUIDE: its number (last in THE LIST).");
        Run run = routes().start();
        for (int i = 0; i < 8; i++) {
            run.is("guide " + i % 6 + " " + i + " " + 111 * i, i).is("count 3", i + 1).is("list " + i, i).is("told " + i + " 3", i);
        }
        run.each("told 7 #", 1, 7, 777, 7, 0, 0, 0);
        Run gone = routes().and("guide 5 5 9", "guide 5 5 9", "go 0 0 1").start();
        gone.each("list #", 1, 0, BAD).is("guide 0 0 0", 2).each("list #", 1, 0, 2, BAD).is("told 2 3", 2).is("told 2 4", 0);
        due.terms("GUIDES (8) are numbered as they come, each with a GRADE (0 to 5), a STRENGTH (0 to 9), "
            + "PAPERS up to a day (0 to 999).");
        run.is("guide 0 0 0", FULL).is("count 3", 8).is("list 8", BAD);
        due.says(17, "BAD; FULL.");
        Scene empty = Scenes.empty(due);
        empty.edges("guide # 0 0", 0, 0, 5, 0, BAD).edges("guide 0 # 0", 0, 0, 9, 0, BAD).edges("guide 0 0 #", 0, 0, 999, 0, BAD);
        Scene rich = Scenes.rich(due);
        rich.edges("guide # 9 999", 0, 5, 5, 5, BAD).edges("guide 5 # 999", 0, 5, 9, 5, BAD).edges("guide 5 9 #", 0, 5, 999, 5, BAD);
        Scene seven = empty.times(7, "guide 1 1 1");
        seven.taken("guide 5 9 999", 7).refused("guide 6 0 0", BAD);
        Scene full = Scenes.full(due);
        full.refused("guide 0 0 0", FULL).refused("guide 5 9 999", FULL);
        full.refused("guide -1 0 0", BAD).refused("guide 6 0 0", BAD).refused("guide 0 -1 0", BAD).refused("guide 0 10 0", BAD)
            .refused("guide 0 0 -1", BAD).refused("guide 0 0 1000", BAD);
    }

    private static void papers() {
        due.says(18, "PAPERS hold up to another day: up to which they did.");
        Run run = Scenes.rich(due).start();
        run.is("papers 1 0", 6).is("papers 1 999", 0).is("papers 1 999", 999).is("papers 1 7", 999).is("told 1 2", 7);
        run.is("told 0 2", 999).is("told 2 2", 20).is("told 1 0", 3).is("told 1 1", 4).is("told 1 4", 1).is("count 9", 6);
        due.says(18, "BAD.");
        Scene rich = Scenes.rich(due);
        rich.edges("papers # 5", 0, 999, 4, 3, BAD).edges("papers 2 #", 0, 20, 999, 20, BAD).refused("papers 5 1000", BAD);
        Scenes.full(due).edges("papers # 0", 0, 999, 7, 992, BAD);
        Scenes.empty(due).refused("papers 0 0", BAD).refused("papers -1 0", BAD);
    }

    private static void told() {
        due.says(19, "Of a GUIDE: 0 GRADE, 1 STRENGTH, 2 PAPERS, 3 the place in THE LIST, 4 whether it is OUT, 5 pence had of PAY, "
            + "6 of THE PURSE.");
        Run run = Scenes.rich(due).start();
        run.each("told 0 #", 5, 9, 999, 1, 0, 135, 0).each("told 1 #", 3, 4, 6, 3, 1, 90, 515).each("told 2 #", 4, 6, 20, 2, 0, 135, 0);
        run.each("told 3 #", 5, 2, 8, 0, 0, 0, 515).each("told 4 #", 2, 1, 3, 4, 0, 0, 0);
        due.says(19, "BAD.");
        Scene rich = Scenes.rich(due);
        rich.edges("told # 0", 0, 5, 4, 2, BAD).edges("told 1 #", 0, 3, 6, 515, BAD).refused("told 5 7", BAD).asks("told 1 4", 1);
        Scenes.full(due).edges("told # 1", 0, 0, 7, 7, BAD);
        Scenes.empty(due).edges("told # 0", 0, BAD, 7, BAD, BAD);
    }

    private static void list() {
        due.says(20, "The GUIDE at place i of THE LIST.");
        Scene rich = Scenes.rich(due);
        rich.start().each("list #", 3, 0, 2, 1, 4, BAD);
        due.terms("THE LIST: all GUIDES, at first by numbers; the day (0 to 999; 0 at first).");
        Run run = Scenes.empty(due).times(8, "guide 1 1 1").start();
        run.each("list #", 0, 1, 2, 3, 4, 5, 6, 7, BAD).is("count 9", 0);
        due.says(20, "BAD.");
        rich.edges("list #", 0, 3, 4, 4, BAD).asks("list 2", 2);
        Scenes.full(due).edges("list #", 0, 1, 7, 2, BAD);
        Scenes.empty(due).refused("list 0", BAD).refused("list -1", BAD);
        Scenes.empty(due).and("guide 0 0 0").edges("list #", 0, 0, 0, 0, BAD);
    }

    private static void days() {
        due.says(21, "The day becomes another one, not ahead of it (0 to 999): what it was.");
        Run run = new Run(due);
        run.is("day 1", 0).is("count 9", 1).is("day 1", 1).is("day 0", BAD).is("count 9", 1).is("day 998", 1).is("day 999", 998);
        run.is("day 999", 999).is("day 998", BAD).is("day 1000", BAD).is("count 9", 999);
        due.says(21, "All GUIDES are OUT no more.");
        Scene rich = Scenes.rich(due);
        Scene allOut = routes().times(8, "guide 5 5 999").times(8, "go 0 0 1");
        for (int day : new int[] {0, 1, 999}) {
            Run out = allOut.start();
            out.is("count 10", 8).is("told 0 4", 1).is("told 7 4", 1).is("day " + day, 0).is("count 10", 0).each("told # 4", 0, 0, 0, 0, 0, 0, 0, 0);
            out.each("list #", 0, 1, 2, 3, 4, 5, 6, 7).is("turn 0 0 1 0", 0);
        }
        rich.start().is("told 1 4", 1).is("day 6", 6).is("told 1 4", 0).is("count 10", 0).is("told 1 3", 3).is("told 1 5", 90);
        due.says(21, "BAD.");
        Scenes.empty(due).edges("day #", 0, 0, 999, 0, BAD);
        rich.edges("day #", 6, 6, 999, 6, BAD).refused("day 0", BAD);
        allOut.and("day 3", "go 0 0 1").edges("day #", 3, 3, 999, 3, BAD);
        rich.and("day 999").edges("day #", 999, 999, 999, 999, BAD);
    }

    private static void whoseTurn() {
        due.terms("TURN for a ROUTE: GUIDES of THE LIST in order that are not OUT, whose PAPERS hold (up to the day or longer), "
            + "whose GRADE is at least grade: as many as ASKED.");
        Scene grades = routes().and("guide 2 1 99", "guide 3 1 99", "guide 4 1 99", "guide 5 1 99", "guide 0 1 99", "tell ask people;");
        grades.start().each("turn 0 0 3 #", 1, 2, 3, NONE).is("turn 0 0 4 0", NONE).each("turn 1 0 5 #", 0, 1, 2, 3, 4, NONE)
            .is("turn 2 0 1 0", 3).is("turn 2 0 2 0", NONE).is("turn 1 0 6 0", NONE);
        Scene papers = routes().and("day 5", "guide 3 1 4", "guide 3 1 5", "guide 3 1 6", "guide 3 1 0", "guide 3 1 999", "tell ask people;");
        papers.start().each("turn 0 0 3 #", 1, 2, 4, NONE).is("turn 0 0 4 0", NONE).is("day 6", 5).each("turn 0 0 2 #", 2, 4, NONE)
            .is("day 7", 6).each("turn 0 0 1 #", 4, NONE).is("day 999", 7).is("turn 0 0 1 0", 4).is("papers 4 998", 999)
            .is("turn 0 0 1 0", NONE).is("papers 0 999", 4).is("turn 0 0 1 0", 0);
        Scene ends = routes().and("guide 3 1 0", "tell ask people;");
        ends.start().is("turn 0 0 1 0", 0).is("day 1", 0).is("turn 0 0 1 0", NONE);
        Scene out = routes().times(4, "guide 3 1 9").and("go 0 0 1", "tell ask people;", "go 0 0 2");
        out.start().each("list #", 3, 0, 1, 2).each("turn 0 0 1 #", 3, NONE).is("turn 0 0 2 0", NONE).is("go 0 0 1", 1)
            .is("turn 0 0 1 0", NONE).is("day 0", 0).each("turn 0 0 4 #", 0, 1, 2, 3, NONE);
        Scene eight = routes().times(8, "guide 3 1 9").and("tell ask people;");
        eight.start().each("turn 0 0 8 #", 0, 1, 2, 3, 4, 5, 6, 7, NONE).each("turn 0 0 9 #", 0, 1, 2, 3, 4, 5, 6, 7, NONE)
            .is("papers 3 0", 9).is("day 1", 0).is("turn 0 0 8 0", NONE).each("turn 0 0 7 #", 0, 1, 2, 4, 5, 6, 7, NONE);
        routes().times(7, "guide 3 1 9").and("tell ask people;").start().is("turn 0 0 8 0", NONE).is("turn 0 0 9 0", NONE).is("turn 0 0 7 6", 6);
    }

    private static void turnBounds() {
        due.says(29, "Place i (from 0 on) of the TURN for a ROUTE: the GUIDE.");
        Scene scene = routes().and("guide 2 1 99", "guide 3 1 99", "guide 4 1 99").and("tell bar quarter>60;ask people;");
        scene.start().each("turn 0 0 2 #", 1, 2, NONE).each("turn 1 0 3 #", 0, 1, 2, NONE).each("turn 1 0 1 #", 0, NONE);
        scene.asks("turn 0 0 2 0", 1).asks("turn 1 60 3 2", 2);
        due.says(29, "BAD: also i below 0; NONE: it is REFUSED, there are not as many, or i is beyond.");
        scene.refused("turn 0 0 2 -1", BAD).refused("turn 0 0 2 " + LEAST, BAD).refused("turn 0 0 2 2", NONE).refused("turn 0 0 2 " + MOST, NONE);
        scene.refused("turn 0 0 3 0", NONE).refused("turn 0 0 3 3", NONE).refused("turn 2 0 1 0", NONE);
        scene.refused("turn 0 61 2 0", NONE).refused("turn 0 95 1 0", NONE).taken("turn 0 60 2 0", 1);
        // The first that fits.
        scene.refused("turn 0 61 2 -1", BAD).refused("turn 0 0 3 -1", BAD).refused("turn 3 0 2 2", BAD).refused("turn 0 0 10 0", BAD);
        scene.edges("turn # 0 1 0", 0, 1, 2, NONE, BAD);
        scene.edges("turn 0 # 1 0", 0, 1, 95, NONE, BAD);
        scene.edges("turn 0 0 # 0", 1, 1, 9, NONE, BAD);
        routes().edges("turn # 0 1 0", 0, NONE, 2, NONE, BAD).refused("turn 0 0 1 -1", BAD);
        Scenes.rich(due).refused("turn 2 0 1 0", BAD).refused("turn 0 0 1 -1", BAD).refused("turn 0 81 1 0", NONE).refused("turn 0 0 9 0", NONE)
            .refused("turn 0 0 1 1", NONE);
        Scenes.empty(due).refused("turn 0 0 1 0", BAD);
        Scene full = Scenes.full(due);
        full.edges("turn # 50 9 0", 0, 4, 5, 4, BAD).refused("turn 0 0 1 2", NONE).asks("turn 0 0 1 1", 6);
    }

    /** Who goes for so much, of guides that all may go: what each has of it, and the purse. */
    private static void paid(String sum, int guides, int each, int purse) {
        Run run = routes().times(8, "guide 5 5 9").and("tell pay " + sum + ";ask " + guides + ";").start();
        run.is("go 0 0 1", guides).is("count 8", purse).is("told 0 5", each).is("told " + (guides - 1) + " 5", each);
        run.is("told 0 6", 0).is("count 10", guides);
        if (guides < 8) {
            run.is("told " + guides + " 5", 0).is("told " + guides + " 4", 0);
        }
    }

    private static void goes() {
        due.says(30, "They go: they are OUT, put behind THE LIST, PAY is divided down by how many, each has that; a tenth "
            + "(divided down) of each one's part goes to THE PURSE, not to it: how many go.");
        paid("0", 1, 0, 0);
        paid("1", 1, 1, 0);
        paid("9", 1, 9, 0);
        paid("10", 1, 9, 1);
        paid("19", 1, 18, 1);
        paid("20", 1, 18, 2);
        paid("7", 2, 3, 0);
        paid("8", 2, 4, 0);
        paid("19", 2, 9, 0);
        paid("20", 2, 9, 2);
        paid("29", 3, 9, 0);
        paid("30", 3, 9, 3);
        paid("59", 3, 18, 3);
        paid("7", 8, 0, 0);
        paid("8", 8, 1, 0);
        paid("79", 8, 9, 0);
        paid("80", 8, 9, 8);
        paid("9999*9999", 1, 900000, 100000);
        paid("9999*9999", 3, 300000, 99999);
        paid("9999*9999", 8, 112500, 100000);
        due.terms("Those who go are put behind THE LIST in that order; who is passed over stays where it is.");
        Run run = routes().and("guide 2 1 99", "guide 3 1 2", "guide 4 1 99", "guide 5 1 99", "guide 3 1 99")
            .and("tell ask people;pay 100;", "day 3").start();
        run.is("go 0 0 2", 2).each("list #", 0, 1, 4, 2, 3).each("told # 4", 0, 0, 1, 1, 0).each("told # 5", 0, 0, 45, 45, 0);
        run.is("go 0 0 1", 1).each("list #", 0, 1, 2, 3, 4).each("told # 4", 0, 0, 1, 1, 1).is("count 10", 3).is("go 1 0 1", 1);
        run.each("list #", 1, 2, 3, 4, 0).each("told # 5", 90, 0, 45, 45, 90).is("count 8", 30).each("told # 3", 4, 0, 1, 2, 3);
        Run all = routes().times(8, "guide 5 1 99").and("tell ask people;").start();
        all.is("go 2 0 9", 8).each("list #", 0, 1, 2, 3, 4, 5, 6, 7).is("count 10", 8).is("go 2 0 1", NONE).is("day 0", 0);
        all.is("go 2 0 3", 3).each("list #", 3, 4, 5, 6, 7, 0, 1, 2).is("go 2 0 5", 5).each("list #", 0, 1, 2, 3, 4, 5, 6, 7);

        due.says(30, "BAD; STATE: it is REFUSED; NONE: there are not as many.");
        Scene scene = routes().and("guide 2 1 99", "guide 3 1 99", "guide 4 1 99").and("tell bar quarter>60;ask people;pay 50;");
        scene.refused("go 0 0 3", NONE).refused("go 2 0 1", NONE).refused("go 1 0 4", NONE).refused("go 1 0 9", NONE);
        scene.taken("go 0 0 2", 2).taken("go 1 0 3", 3).taken("go 0 60 2", 2);
        scene.refused("go 0 61 2", STATE).refused("go 0 61 3", STATE).refused("go 2 95 9", STATE);
        scene.refused("go 3 61 2", BAD).refused("go 0 96 3", BAD).refused("go 0 61 10", BAD);
        scene.edges("go # 0 1", 0, 1, 2, NONE, BAD);
        scene.edges("go 0 # 1", 0, 1, 95, STATE, BAD);
        scene.edges("go 0 0 #", 1, 1, 9, NONE, BAD);
        routes().refused("go 0 0 1", NONE).and("tell bar 1=1;").refused("go 0 0 1", STATE);
        Scenes.empty(due).refused("go 0 0 1", BAD);
        Scene rich = Scenes.rich(due);
        rich.refused("go 0 81 1", STATE).refused("go 0 80 9", NONE).taken("go 0 80 1", 1);
        rich.refused("go 2 0 1", BAD).refused("go 0 96 1", BAD).refused("go 0 0 10", BAD);
        Scenes.full(due).taken("go 0 0 1", 2).and("day 8").refused("go 0 0 1", STATE);
    }

    public static void main(String[] arguments) {
        guides();
        papers();
        told();
        list();
        days();
        whoseTurn();
        turnBounds();
        goes();
        due.close();
    }
}
