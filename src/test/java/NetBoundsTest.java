/** Promises 1 to 7, sentence by sentence, at their bounds: a new object, places, steps, routes. */
public final class NetBoundsTest {
    private static final int BAD = -1, STATE = -2, FULL = -3, NONE = -4, BARRED = -5;
    private static final long BAD_GRADE = -1000000000000L;
    private static final Due due = new Due();

    private static void newObject() {
        due.says(1, "Nothing; day 0; SHEETS of nothing.");
        Scene empty = Scenes.empty(due);
        empty.start().each("count #", 0, 0, 0, 0, 0, 0, 0, 0, 0, 0, 0, 0, 0).is("fault", 0).is("text", 0).is("pieces", 0);
        empty.start().each("tear #", 0, 0, 0, 0).each("lay # 0 1", -11, -11, -11, -11);
        empty.start().each("unknown 0 #", 1, 1, 1).each("unknown 23 #", 1, 1, 1).each("weather 0 #", 200, 99, 99);
        empty.start().is("day 0", 0).is("roping 0 10", -1000).is("give 1", 1);
        String[] nothingThere = {"stepOf 0 0", "route 0", "on 0 0", "routeOf 0 0", "takes 0 0 0", "hour 0 0 0", "late 0 0 95",
            "way 0 0 0 0", "papers 0 0", "told 0 0", "list 0", "why 0 0 1", "pay 0 0 1", "asked 0 0 1", "turn 0 0 1 0",
            "go 0 0 1", "rope 0 0 0 1", "went 0 0", "stayed 0 0", "at 0 0", "near 0 0 0", "entry 0 0 1", "share 1",
            "step 0 1 0 1 0 false", "end 1"};
        for (String call : nothingThere) {
            empty.refused(call, BAD);
        }
        empty.refused("wish 0 1 0", -100).refused("unrope", NONE).refused("back", NONE);
        empty.refused("grade 0 0 0", BAD_GRADE).refused("grade 1 0 0", BAD_GRADE).refused("over 0 0", BAD_GRADE);

        Run one = Scenes.rich(due).start();
        empty.start().each("count #", 0, 0, 0, 0, 0, 0, 0, 0, 0, 0, 0, 0, 0).is("back", NONE);
        one.is("count 0", 3);
    }

    private static void lastCall() {
        due.says(1, "Nothing; day 0; SHEETS of nothing.");
        Run run = new Run(due);
        for (int i = 1; i <= 170; i++) {
            run.is("give 1", i).is("place 10", BAD).is("count 8", i);
        }
        run.is("place 9", 0).is("count 0", 1);
        due.is("calls that an object bears", run.calls(), Run.MOST_CALLS);
    }

    private static void answers() {
        due.terms("Answers: BAD -1 (a number is not as told, there is no such PLACE, STEP, ROUTE, GUIDE, PERSON, ROPE, SHEET), STATE -2 "
            + "(as told), FULL -3, NONE -4 (there is none), BARRED -5, the first that fits; what is refused changes nothing (but THE TAPE, "
            + "as told).");
        due.is("BAD", ValleyGuides.BAD, -1);
        due.is("STATE", ValleyGuides.STATE, -2);
        due.is("FULL", ValleyGuides.FULL, -3);
        due.is("NONE", ValleyGuides.NONE, -4);
        due.is("BARRED", ValleyGuides.BARRED, -5);
        Scene full = Scenes.full(due);
        full.refused("place 10", BAD).refused("step 1 1 0 1 0 false", BAD).refused("route 20", BAD).refused("on 0 20", BAD).refused("on 0 7", STATE)
            .refused("on 0 6", FULL).refused("guide 6 0 0", BAD).refused("person 10", BAD).refused("rope 0 9 0 10", BAD).refused("entry 0 0 96", BAD);
        full.and("give 1", "day 8", "tell bar 1=1;ask 8;").refused("go 0 0 10", BAD).refused("go 0 0 1", STATE).refused("turn 0 0 1 -1", BAD)
            .refused("turn 0 0 1 0", NONE).refused("share 256", BAD).refused("share 255", STATE);
        full.and("tear 0", "tear 2").refused("takes 3 9 96", BAD).refused("takes 3 9 95", BARRED).refused("hour 4 9 96", BAD)
            .refused("hour 4 9 95", -100).refused("late 4 9 96", BAD).refused("late 4 9 95", NONE);
        Scene text = Scenes.rich(due).and("tape pay 1 1;");
        text.taken("text", -16).alike("text", "end 0", "fault");
    }

    private static void places() {
        due.says(2, "A PLACE: its number.");
        Run run = new Run(due);
        for (int i = 0; i < 12; i++) {
            run.is("place " + i % 10, i).is("count 0", i + 1);
        }
        due.terms("PLACES (12) are numbered as they come, each with BEDS (0 to 9).");
        run.is("place 0", FULL).is("count 0", 12);
        due.says(2, "BAD; FULL.");
        Scene empty = Scenes.empty(due);
        empty.edges("place #", 0, 0, 9, 0, BAD);
        Scenes.rich(due).edges("place #", 0, 3, 9, 3, BAD);
        Scene eleven = empty.times(11, "place 4");
        eleven.edges("place #", 0, 11, 9, 11, BAD);
        Scene full = Scenes.full(due);
        full.refused("place 0", FULL).refused("place 9", FULL).refused("place 5", FULL);
        full.refused("place -1", BAD).refused("place 10", BAD);
    }

    private static void steps() {
        due.says(3, "A STEP: its number.");
        Run run = new Run(due).does("place 0", "place 0");
        for (int i = 0; i < 20; i++) {
            run.is("step " + i % 2 + " " + (i + 1) % 2 + " 0 1 0 false", i).is("count 1", i + 1);
        }
        due.terms("STEPS (20) are numbered as they come, from a PLACE to another one, with a SORT, a LENGTH (1 to 9 quarters), "
            + "a HARD (0 to 5); a STEP may be NARROW (it bears one rope).");
        run.is("step 0 1 0 1 0 false", FULL).is("count 1", 20);
        Scene rich = Scenes.rich(due);
        rich.edges("step # 1 0 1 0 false", 0, 5, 2, 5, BAD);
        rich.edges("step 1 # 0 1 0 false", 0, 5, 2, 5, BAD);
        rich.edges("step 0 1 # 1 0 false", 0, 5, 4, 5, BAD);
        rich.edges("step 0 1 0 # 0 false", 1, 5, 9, 5, BAD);
        rich.edges("step 0 1 0 1 # false", 0, 5, 5, 5, BAD);
        rich.taken("step 0 1 0 1 0 true", 5);
        due.says(3, "BAD: also from and to are one; FULL.");
        rich.refused("step 0 0 0 1 0 false", BAD).refused("step 1 1 0 1 0 true", BAD).refused("step 2 2 4 9 5 true", BAD);
        Scene one = Scenes.empty(due).and("place 1");
        one.refused("step 0 0 0 1 0 false", BAD).refused("step 0 1 0 1 0 false", BAD).refused("step 1 0 0 1 0 false", BAD);
        one.and("place 1").taken("step 0 1 0 1 0 false", 0).taken("step 1 0 0 1 0 false", 0);
        Scene nineteen = Scenes.empty(due).and("place 1", "place 2").times(19, "step 1 0 0 1 0 false");
        nineteen.taken("step 0 1 4 9 5 true", 19);
        Scene full = Scenes.full(due);
        full.refused("step 0 1 0 1 0 false", FULL).refused("step 11 0 4 9 5 true", FULL);
        String[] bad = {"-1 1 0 1 0", "12 1 0 1 0", "1 -1 0 1 0", "1 12 0 1 0", "3 3 0 1 0", "0 1 -1 1 0", "0 1 5 1 0", "0 1 0 0 0",
            "0 1 0 10 0", "0 1 0 1 -1", "0 1 0 1 6"};
        for (String numbers : bad) {
            full.refused("step " + numbers + " false", BAD);
        }
    }

    private static void stepOf() {
        due.says(4, "Of a STEP: 0 from, 1 to, 2 SORT, 3 LENGTH, 4 HARD, 5 whether it is NARROW.");
        Run run = new Run(due).does("place 0", "place 0", "place 0");
        run.does("step 0 2 0 1 0 false", "step 2 0 4 9 5 true", "step 1 2 2 5 3 false");
        run.each("stepOf 0 #", 0, 2, 0, 1, 0, 0).each("stepOf 1 #", 2, 0, 4, 9, 5, 1).each("stepOf 2 #", 1, 2, 2, 5, 3, 0);
        due.says(4, "BAD.");
        Scene rich = Scenes.rich(due);
        rich.edges("stepOf # 3", 0, 4, 4, 2, BAD);
        rich.edges("stepOf 4 #", 0, 0, 5, 0, BAD);
        rich.refused("stepOf 5 -1", BAD).asks("stepOf 0 0", 0).asks("stepOf 0 5", 1);
        Scenes.full(due).edges("stepOf # 3", 0, 1, 19, 9, BAD);
    }

    private static void routes() {
        due.says(5, "A ROUTE of one STEP: its number.");
        Run run = Scenes.rich(due).start();
        run.is("route 4", 2).is("count 2", 3).is("routeOf 2 0", 1).is("routeOf 2 10", 4).is("routeOf 2 11", BAD);
        due.terms("ROUTES (6): rows of 1 to 6 STEPS, each from where the one ahead ends.");
        run.is("route 0", 3).is("route 0", 4).is("route 3", 5).is("route 3", FULL).is("count 2", 6);
        due.says(5, "BAD; FULL.");
        Scene rich = Scenes.rich(due);
        rich.edges("route #", 0, 2, 4, 2, BAD);
        Scene five = rich.times(3, "route 1");
        five.taken("route 4", 5).refused("route 5", BAD);
        Scene full = Scenes.full(due);
        full.refused("route 0", FULL).refused("route 19", FULL).refused("route -1", BAD).refused("route 20", BAD);
        Scenes.empty(due).and("place 1", "place 1").refused("route 0", BAD);
    }

    private static void on() {
        due.says(6, "A STEP behind a ROUTE: how many it has.");
        Run run = Scenes.rich(due).start();
        run.is("on 1 0", 3).is("on 1 1", 4).is("on 1 0", 5).is("on 1 2", 6).each("routeOf 1 1#", 2, 3, 0, 1, 0, 2);
        run.is("routeOf 0 0", 3).is("routeOf 1 0", 6).is("routeOf 1 2", 2);
        due.says(6, "BAD; STATE: it does not begin where that ends; FULL: 6.");
        run.is("on 1 3", FULL).is("on 1 0", STATE).is("on 1 5", BAD).is("on 2 3", BAD).is("routeOf 1 0", 6);
        Scene rich = Scenes.rich(due).and("on 0 3");
        rich.edges("on # 0", 0, 5, 1, 3, BAD);
        rich.edges("on 1 #", 0, 3, 4, 3, BAD);
        rich.refused("on 0 1", STATE).refused("on 0 2", STATE).refused("on 0 3", STATE).refused("on 1 3", STATE);
        rich.refused("on -1 -1", BAD).refused("on 2 1", BAD).refused("on 0 -1", BAD).refused("on 1 5", BAD);
        Scene five = rich.and("on 0 4");
        five.taken("on 0 3", 6).refused("on 0 0", STATE);
        Scene six = five.and("on 0 3");
        six.refused("on 0 0", FULL).refused("on 0 4", FULL).refused("on 0 3", STATE).refused("on 0 5", BAD).refused("on 0 -1", BAD);
        Scene full = Scenes.full(due);
        full.refused("on 0 6", FULL).refused("on 5 11", FULL).refused("on 5 6", STATE).refused("on 0 20", BAD).refused("on 6 6", BAD);
        Scenes.empty(due).and("place 1", "place 1", "step 0 1 0 1 0 false").refused("on 0 0", BAD);
        Scenes.empty(due).and("place 1", "place 1", "step 0 1 0 1 0 false", "route 0").refused("on 0 0", STATE);
    }

    private static void routeOf() {
        due.says(7, "Of a ROUTE: 0 STEPS, 1 where it begins, 2 where it ends, 3 the greatest HARD, 4 the sum of HARD, "
            + "5 of LENGTH, 10 and i: STEP i.");
        Run run = Scenes.rich(due).start();
        run.each("routeOf 0 #", 3, 0, 2, 4, 6, 9, BAD).each("routeOf 0 1#", 0, 1, 4, BAD, BAD, BAD, BAD);
        run.each("routeOf 1 #", 2, 1, 0, 3, 4, 6, BAD).each("routeOf 1 1#", 2, 3, BAD, BAD);
        // Of its greatest HARD at the first, and of none of them hard at all.
        run.does("route 4", "route 0").each("routeOf 2 #", 1, 0, 2, 4, 4, 2).each("routeOf 3 #", 1, 0, 1, 0, 0, 4);
        Scenes.full(due).start().each("routeOf 3 #", 6, 3, 9, 5, 15, 15).each("routeOf 5 1#", 5, 6, 7, 8, 9, 10, BAD);
        due.says(7, "BAD.");
        Scene rich = Scenes.rich(due);
        rich.edges("routeOf # 0", 0, 3, 1, 2, BAD);
        rich.edges("routeOf 0 #", 0, 3, 12, 4, BAD);
        for (int what : new int[] {6, 7, 8, 9, 13, 14, 15, 16}) {
            rich.refused("routeOf 0 " + what, BAD);
        }
        rich.asks("routeOf 0 5", 9).asks("routeOf 0 10", 0).refused("routeOf 1 12", BAD).refused("routeOf 2 -1", BAD);
        Scenes.full(due).edges("routeOf # 15", 0, 5, 5, 10, BAD).edges("routeOf 5 #", 0, 6, 15, 10, BAD);
    }

    public static void main(String[] arguments) {
        newObject();
        lastCall();
        answers();
        places();
        steps();
        stepOf();
        routes();
        on();
        routeOf();
        due.close();
    }
}
