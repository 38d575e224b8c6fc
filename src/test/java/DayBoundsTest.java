/** Promises 34 to 39, sentence by sentence, at their bounds: ropes, the day they walk in, who is near. */
public final class DayBoundsTest {
    private static final int BAD = -1, FULL = -3, NONE = -4, OUT = -5;
    private static final Due due = new Due();

    /**
     * Places 0 to 3 with 3, 2, 0, 9 beds. Steps of 4 quarters: 0 narrow 0-1, 1 1-0, 2 1-2, 3 a ridge of hard 5 0-1; step 4 of
     * 1 quarter 2-3. Routes: 0 by step 0; 1 there and back; 2 on to 2; 3 by the ridge; 4 thrice there and back; 5 on to 3.
     */
    private static Scene net() {
        return Scenes.calm(Scenes.empty(due)).and("place 3", "place 2", "place 0", "place 9",
            "step 0 1 0 4 0 true", "step 1 0 0 4 0 false", "step 1 2 0 4 0 false", "step 0 1 4 4 5 false", "step 2 3 0 1 0 false",
            "route 0", "route 0", "route 0", "route 3", "route 0", "route 0", "on 1 1", "on 2 2",
            "on 4 1", "on 4 0", "on 4 1", "on 4 0", "on 4 1", "on 5 2", "on 5 4");
    }

    private static void went(Scene scene, int rope, long... want) {
        scene.start().each("went " + rope + " #", want);
    }

    private static void ropes() {
        due.says(34, "A ROPE: its number.");
        due.terms("A DAY: ROPES (8) on ROUTES, each with a STRENGTH, a START (a QUARTER), how many people (1 to 9).");
        Run run = net().start();
        for (int i = 0; i < 8; i++) {
            run.is("rope " + i % 6 + " " + i + " " + 13 * i + " " + (i + 1), i).is("count 6", i + 1);
        }
        run.is("rope 0 9 0 1", FULL).is("count 6", 8);
        due.says(34, "BAD; FULL.");
        Scene net = net();
        net.edges("rope # 9 0 1", 0, 0, 5, 0, BAD).edges("rope 0 # 0 1", 0, 0, 9, 0, BAD);
        net.edges("rope 0 9 # 1", 0, 0, 95, 0, BAD).edges("rope 0 9 0 #", 1, 0, 9, 0, BAD);
        Scene rich = Scenes.rich(due);
        rich.edges("rope # 9 0 1", 0, 3, 1, 3, BAD).edges("rope 0 # 0 1", 0, 3, 9, 3, BAD);
        rich.edges("rope 0 9 # 1", 0, 3, 95, 3, BAD).edges("rope 0 9 0 #", 1, 3, 9, 3, BAD);
        net.times(7, "rope 0 9 0 1").taken("rope 5 0 95 9", 7);
        Scene full = Scenes.full(due);
        full.refused("rope 0 0 0 1", FULL).refused("rope 5 9 95 9", FULL);
        for (String numbers : new String[] {"-1 0 0 1", "6 0 0 1", "0 -1 0 1", "0 10 0 1", "0 0 -1 1", "0 0 96 1", "0 0 0 0", "0 0 0 10"}) {
            full.refused("rope " + numbers, BAD);
        }
        Scenes.empty(due).refused("rope 0 9 0 1", BAD);

        due.says(35, "The latest ROPE goes: its number.");
        Run gone = Scenes.full(due).start();
        for (int i = 7; i >= 0; i--) {
            gone.is("went " + i + " 3", gone.call("went " + i + " 3")).is("unrope", i).is("count 6", i).is("went " + i + " 0", BAD).is("at " + i + " 0", BAD);
        }
        gone.is("unrope", NONE).is("rope 5 9 95 9", 0).is("unrope", 0).is("unrope", NONE);
        Run others = net().and("rope 0 9 10 1", "rope 0 9 20 1", "rope 0 9 30 1").start();
        others.is("unrope", 2).is("went 0 1", 14).is("went 1 1", 24).is("went 2 1", BAD).is("rope 0 9 40 1", 2).is("went 2 1", 44);
        due.says(35, "NONE.");
        Scenes.empty(due).refused("unrope", NONE);
        net.refused("unrope", NONE);
        Scenes.rich(due).times(3, "unrope").refused("unrope", NONE);
        Scenes.full(due).times(8, "unrope").refused("unrope", NONE);
        net.and("rope 0 9 0 1", "unrope").refused("unrope", NONE);
    }

    private static void ends() {
        due.says(36, "Of a ROPE in A DAY as all is now: 0 the PLACE where it is DONE (-5 BARRED: OUT), 1 the QUARTER in which it was "
            + "(-5: OUT), 2 whether it TURNED, 3 QUARTERS that it waited, 4 its people with BEDS, 5 STEPS that it has behind it, "
            + "6 the PLACE where it was last.");
        due.terms("QUARTER by QUARTER from 0 to 95: 1 ropes by numbers whose STEP ends in it (or whose START it is) come to the PLACE.");
        went(net().and("rope 0 9 0 1"), 0, 1, 4, 0, 0, 1, 1, 1, BAD);
        went(net().and("rope 0 0 0 1"), 0, 1, 7, 0, 0, 1, 1, 1);
        went(net().and("rope 0 9 91 1"), 0, 1, 95, 0, 0, 1, 1, 1);
        went(net().and("rope 4 9 0 3"), 0, 0, 24, 0, 0, 3, 6, 0);
        went(net().and("rope 4 9 71 4"), 0, 0, 95, 0, 0, 3, 6, 0);
        went(net().and("rope 5 9 86 9"), 0, 3, 95, 0, 0, 9, 3, 3);
        due.terms("Ropes that are not DONE behind QUARTER 95 are OUT: where they were last, without BEDS.");
        went(net().and("rope 0 9 92 1"), 0, OUT, OUT, 0, 0, 0, 0, 0);
        went(net().and("rope 0 9 95 9"), 0, OUT, OUT, 0, 0, 0, 0, 0);
        went(net().and("rope 0 0 89 1"), 0, OUT, OUT, 0, 0, 0, 0, 0);
        went(net().and("rope 4 9 72 1"), 0, OUT, OUT, 0, 0, 0, 5, 1);
        went(net().and("rope 5 9 87 9"), 0, OUT, OUT, 0, 0, 0, 2, 2);
        Scene out = net().and("rope 0 9 92 3", "rope 5 9 87 9");
        out.start().each("stayed 0 #", 0, 0, 2).each("stayed 1 #", 0, 0, 1).each("stayed 2 #", 0, 0, 1).each("stayed 3 #", 0, 0, 0);

        due.terms("one whose next STEP is BARRED then, or for which a line back has a test that holds (VARIABLES of its ROUTE, that "
            + "QUARTER, its people), TURNS: it is DONE there;");
        Scene wind = net().and("lay 0 23 5100", "lay 0 3 5000", "lay 0 4 5100");
        went(wind.and("rope 3 9 95 2"), 0, 0, 95, 1, 0, 2, 0, 0);
        went(wind.and("rope 3 9 92 4"), 0, 0, 92, 1, 0, 3, 0, 0);
        went(wind.and("rope 3 9 91 4"), 0, OUT, OUT, 0, 0, 0, 0, 0);
        went(wind.and("rope 3 9 15 1"), 0, 1, 21, 0, 0, 1, 1, 1);
        went(wind.and("rope 3 9 16 1"), 0, 0, 16, 1, 0, 1, 0, 0);
        went(wind.and("rope 3 9 19 1"), 0, 0, 19, 1, 0, 1, 0, 0);
        went(wind.and("rope 3 9 20 1"), 0, 1, 25, 0, 0, 1, 1, 1);
        String[] holds = {"quarter=10", "people=2", "length=8", "grade=0 and hard=0", "day=0", "wind=0 and rain=0 and snow=0", "1=2 or 1=1"};
        for (String test : holds) {
            went(net().and("tell back " + test + ";", "rope 1 9 10 2"), 0, 0, 10, 1, 0, 2, 0, 0);
        }
        for (String test : new String[] {"quarter=9", "people=3", "length=4", "grade=1 or hard=1", "day=1", "wind>0", "quarter=18"}) {
            went(net().and("tell back " + test + ";", "rope 1 9 10 2"), 0, 0, 18, 0, 0, 2, 2, 0);
        }
        went(net().and("tell back quarter=14;", "rope 1 9 10 3"), 0, 1, 14, 1, 0, 2, 1, 1);
        went(net().and("tell bar 1=1;pay 1;ask 1;", "rope 1 9 10 3"), 0, 0, 18, 0, 0, 3, 2, 0);
        went(net().and("tell " + "bar 1=1;".repeat(11) + "back 1=1;", "rope 1 9 10 3"), 0, 0, 10, 1, 0, 3, 0, 0);
        due.terms("one at the end of its ROUTE is DONE;");
        went(net().and("tell back quarter=18;", "rope 1 9 10 2"), 0, 0, 18, 0, 0, 2, 2, 0);
        went(net().and("tell back quarter=95;", "rope 0 9 91 2"), 0, 1, 95, 0, 0, 2, 1, 1);
        // A rope in the place of one that went is no heir to it.
        Run heir = net().and("tell back quarter=14;", "rope 0 0 9 1", "rope 1 9 12 1").start();
        heir.each("went 1 #", 0, 14, 1, 2, 1, 0, 0).is("unrope", 1).is("rope 4 9 71 1", 1).each("went 1 #", 0, 95, 0, 0, 1, 6, 0);
        heir.is("unrope", 1).is("rope 0 9 92 1", 1).each("went 1 #", OUT, OUT, 0, 0, 0, 0, 0).is("at 1 91", NONE).is("at 1 92", 100);
        Run now = net().and("rope 1 9 10 2").start();
        now.is("went 0 0", 0).is("tell back 1=1;", 1).is("went 0 1", 10).is("on 1 2", -2).is("tell ", 0).is("went 0 1", 18).is("on 1 0", 3)
            .is("went 0 1", 22).is("went 0 0", 1).is("tell back day=1;", 1).is("went 0 2", 0).is("day 1", 0).is("went 0 2", 1);
        due.says(36, "BAD.");
        Scene rich = Scenes.rich(due);
        rich.edges("went # 1", 0, 20, 2, 67, BAD).edges("went 1 #", 0, 0, 6, 0, BAD).refused("went 3 7", BAD).asks("went 0 3", 0);
        Scenes.full(due).edges("went # 1", 0, 14, 7, OUT, BAD);
        net().refused("went 0 0", BAD).and("rope 0 9 0 1").edges("went # 0", 0, 1, 0, 1, BAD);
        Scenes.empty(due).refused("went 0 0", BAD);
    }

    private static void waiting() {
        due.terms("one whose next STEP is NARROW, with a rope on it, waits; else it goes.");
        Scene two = net().and("rope 0 9 10 1");
        went(two.and("rope 0 9 10 1"), 1, 1, 18, 0, 4, 1, 1, 1);
        went(two.and("rope 0 9 11 1"), 1, 1, 18, 0, 3, 1, 1, 1);
        went(two.and("rope 0 9 13 1"), 1, 1, 18, 0, 1, 1, 1, 1);
        went(two.and("rope 0 9 14 1"), 1, 1, 18, 0, 0, 1, 1, 1);
        went(two.and("rope 0 9 9 1"), 1, 1, 13, 0, 0, 1, 1, 1);
        went(two.and("rope 0 9 9 1"), 0, 1, 17, 0, 3, 1, 1, 1);
        went(two.and("rope 3 9 10 1"), 1, 1, 15, 0, 0, 1, 1, 1);
        Scene eight = net().times(8, "rope 0 9 0 1");
        for (int r = 0; r < 8; r++) {
            went(eight, r, 1, 4 * r + 4, 0, 4 * r, r < 2 ? 1 : 0, 1, 1);
        }
        eight.start().each("stayed 1 #", 2, 6, 8).each("stayed 0 #", 0, 0, 8);
        Scene slow = net().times(4, "rope 0 0 80 1");
        went(slow, 0, 1, 87, 0, 0, 1, 1, 1);
        went(slow, 1, 1, 94, 0, 7, 1, 1, 1);
        went(slow, 2, OUT, OUT, 0, 14, 0, 0, 0);
        went(slow, 3, OUT, OUT, 0, 16, 0, 0, 0);
        slow.start().is("at 3 79", NONE).is("at 3 80", 0).is("at 3 95", 0).is("at 2 93", 0).is("at 2 94", 100).is("at 2 95", 100);
        went(net().times(2, "rope 1 9 95 2"), 1, OUT, OUT, 0, 1, 0, 0, 0);
        // Steps that are not narrow bear as many as come.
        Scene wide = net().times(8, "rope 3 9 # 1");
        for (int r = 0; r < 8; r++) {
            went(wide, r, 1, r + 5, 0, 0, r < 2 ? 1 : 0, 1, 1);
        }
        due.terms("2 those who are at a PLACE, and are not DONE, by the QUARTER in which they came there, then by numbers:");
        Scene queue = net().and("rope 0 9 12 1", "rope 0 9 11 1", "rope 0 9 11 1", "rope 0 9 10 1");
        went(queue, 3, 1, 14, 0, 0, 1, 1, 1);
        went(queue, 1, 1, 18, 0, 3, 1, 1, 1);
        went(queue, 2, 1, 22, 0, 7, 0, 1, 1);
        went(queue, 0, 1, 26, 0, 10, 0, 1, 1);
        // What is BARRED, or turned by a line back, is looked at ahead of who is on the step.
        Scene turns = net().and("tell back people=2 and quarter=12;", "rope 0 9 10 1", "rope 0 9 10 2", "rope 0 9 11 1");
        went(turns, 1, 0, 12, 1, 2, 2, 0, 0);
        went(turns, 2, 1, 18, 0, 3, 1, 1, 1);
        Scene ridge = Scenes.calm(Scenes.empty(due)).and("place 1", "place 1", "step 0 1 4 9 5 true", "route 0", "lay 0 3 5100")
            .times(2, "rope 0 9 10 1");
        went(ridge, 0, 1, 20, 0, 0, 1, 1, 1);
        went(ridge, 1, 0, 12, 1, 2, 1, 0, 0);
    }

    private static void beds() {
        due.says(37, "Of a PLACE in that DAY: 0 BEDS taken, 1 people who LIE OUT there, 2 how often ropes came there (STARTS too).");
        due.terms("One that is DONE takes as many BEDS as it has people, as far as there are, others of its people LIE OUT.");
        int[] had = {0, 1, 2, 2, 2, 2, 2, 2, 2, 2};
        for (int people = 1; people < 10; people++) {
            Scene scene = net().and("rope 0 9 10 " + people);
            scene.start().is("went 0 4", had[people]).each("stayed 1 #", had[people], people - had[people], 1, BAD).each("stayed 0 #", 0, 0, 1);
            net().and("rope 2 9 10 " + people).start().is("went 0 4", 0).each("stayed 2 #", 0, people, 1).each("stayed 1 #", 0, 0, 1);
            net().and("rope 5 9 10 " + people).start().is("went 0 4", people).each("stayed 3 #", people, 0, 1);
        }
        Scene shared = net().and("rope 5 9 10 4", "rope 5 9 20 4", "rope 5 9 30 4", "rope 5 9 40 4");
        went(shared, 1, 3, 29, 0, 0, 4, 3, 3);
        went(shared, 2, 3, 39, 0, 0, 1, 3, 3);
        went(shared, 3, 3, 49, 0, 0, 0, 3, 3);
        shared.start().each("stayed 3 #", 9, 7, 4).each("stayed 2 #", 0, 0, 4).each("stayed 0 #", 0, 0, 4);
        // In one quarter: who came there first, then by numbers, not by who has the more people.
        Scene first = net().and("rope 3 9 12 9", "rope 3 9 12 1");
        went(first, 0, 1, 17, 0, 0, 2, 1, 1);
        went(first, 1, 1, 17, 0, 0, 0, 1, 1);
        // Rope 1 waits at 1 from quarter 14 on and turns in 17, in which rope 0 comes to its end there.
        Scene late = Scenes.calm(Scenes.empty(due)).and("place 0", "place 1", "place 0", "step 0 1 0 4 0 false", "step 1 2 0 9 0 true",
            "route 0", "route 1", "route 0", "on 2 1", "tell back quarter=17 and length=13;",
            "rope 0 9 13 1", "rope 2 9 10 1", "rope 1 9 13 1");
        went(late, 1, 1, 17, 1, 3, 1, 1, 1);
        went(late, 0, 1, 17, 0, 0, 0, 1, 1);
        late.start().each("stayed 1 #", 1, 1, 3);
        net().and("rope 4 9 10 1").start().each("stayed 0 #", 1, 0, 4).each("stayed 1 #", 0, 0, 3);
        due.says(37, "BAD.");
        Scene rich = Scenes.rich(due);
        rich.edges("stayed # 2", 0, 4, 2, 2, BAD).edges("stayed 0 #", 0, 3, 2, 4, BAD).refused("stayed 3 3", BAD);
        Scenes.full(due).edges("stayed # 2", 0, 2, 11, 1, BAD).edges("stayed 11 #", 0, 1, 2, 1, BAD);
        Scenes.empty(due).and("place 5").edges("stayed # 0", 0, 0, 0, 0, BAD).edges("stayed 0 #", 0, 0, 2, 0, BAD);
        Scenes.empty(due).refused("stayed 0 0", BAD);
    }

    private static void where() {
        due.says(38, "Where a ROPE is in a QUARTER of that DAY: a PLACE (when all of the QUARTER is done); 100 and k: on STEP k; NONE: not begun yet.");
        Run run = net().and("rope 1 9 10 1", "rope 0 9 0 1", "rope 0 9 95 1", "rope 3 9 90 1").start();
        run.is("at 0 0", NONE).is("at 0 9", NONE).is("at 0 10", 100).is("at 0 13", 100).is("at 0 14", 101).is("at 0 17", 101).is("at 0 18", 0).is("at 0 95", 0);
        run.is("at 1 0", 100).is("at 1 3", 100).is("at 1 4", 1).is("at 1 95", 1).is("at 2 94", NONE).is("at 2 95", 100);
        run.is("at 3 89", NONE).is("at 3 90", 103).is("at 3 94", 103).is("at 3 95", 1);
        net().and("tell back 1=1;", "rope 0 9 0 1", "rope 0 9 95 1").start().is("at 0 0", 0).is("at 0 95", 0).is("at 1 94", NONE).is("at 1 95", 0);
        due.says(38, "BAD.");
        Scene rich = Scenes.rich(due);
        rich.edges("at # 60", 0, 2, 2, 102, BAD).edges("at 1 #", 0, NONE, 95, 0, BAD).refused("at 3 96", BAD).asks("at 0 10", 100);
        Scenes.full(due).edges("at # 0", 0, 100, 7, NONE, BAD);
        net().refused("at 0 0", BAD);
        Scenes.empty(due).refused("at 0 0", BAD);
    }

    private static void near() {
        due.says(39, "To a call from a PLACE in a QUARTER: the GUIDE who is not OUT, or the ROPE, that can be there first: GUIDES go from "
            + "PLACE 0; a ROPE that is at a PLACE then (by at()) from there: 0 the QUARTER, 1 who (a GUIDE; 100 and a ROPE; GUIDES first, then numbers).");
        Scene guides = net().and("guide 0 3 0", "guide 0 6 0", "guide 0 6 0");
        guides.start().each("near 1 20 #", 25, 1).each("near 0 95 #", 95, 0).each("near 0 0 #", 0, 0).each("near 1 90 #", 95, 1);
        guides.start().each("near 1 91 #", NONE, NONE).each("near 1 95 #", NONE, NONE).each("near 3 83 #", 95, 1).each("near 3 84 #", NONE, NONE);
        Scene gone = guides.and("tell ask 2;", "go 0 0 1");
        gone.start().each("near 1 20 #", 25, 2).is("go 0 0 1", NONE).is("tell ", 0).is("go 0 0 1", 1).each("near 1 20 #", NONE, NONE)
            .is("day 0", 0).each("near 1 20 #", 25, 1);
        Scene rope = net().and("rope 0 9 10 1");
        rope.start().each("near 0 9 #", NONE, NONE).each("near 0 10 #", NONE, NONE).each("near 1 13 #", NONE, NONE).each("near 1 14 #", 14, 100)
            .each("near 1 95 #", 95, 100).each("near 2 91 #", 95, 100).each("near 2 92 #", NONE, NONE).each("near 0 91 #", 95, 100)
            .each("near 3 14 #", 19, 100).each("near 0 92 #", NONE, NONE);
        // A rope that waits is at its place, if it is OUT in the end too.
        net().times(2, "rope 0 0 88 1").start().each("near 0 87 #", NONE, NONE).each("near 0 88 #", 88, 101).each("near 0 94 #", 94, 101)
            .each("near 0 95 #", NONE, NONE);
        net().times(2, "rope 0 0 90 1").start().each("near 0 95 #", 95, 101).each("near 1 90 #", NONE, NONE).each("near 1 88 #", NONE, NONE);
        // Of those who come in one quarter: guides first, then by numbers; one who comes a quarter sooner is ahead of all.
        Scene ties = net().and("rope 1 9 10 1", "rope 1 9 10 1", "guide 0 9 0", "guide 0 9 0");
        ties.start().each("near 0 40 #", 40, 0).each("near 1 40 #", 44, 0).each("near 3 40 #", 49, 0);
        net().and("rope 1 9 10 1", "rope 1 9 10 1").start().each("near 0 40 #", 40, 100);
        net().and("rope 1 8 10 1", "rope 1 0 10 1", "rope 1 9 10 1").start().each("near 1 60 #", 64, 100);
        net().and("rope 1 6 10 1", "rope 1 9 10 1", "guide 0 6 0").start().each("near 1 60 #", 64, 101);
        net().and("rope 1 6 10 1", "guide 0 9 0", "guide 0 6 0").start().each("near 1 60 #", 64, 0);
        Scene last = net().times(7, "rope 1 6 0 1").and("rope 0 9 80 1").times(8, "guide 0 6 0");
        last.start().each("near 2 90 #", 94, 107).each("near 1 60 #", 65, 0);
        Scene eighth = net().times(7, "guide 0 6 0").and("guide 0 9 0");
        eighth.start().each("near 1 60 #", 64, 7);
        due.says(39, "BAD; NONE.");
        Scene rich = Scenes.rich(due);
        rich.edges("near # 50 1", 0, 0, 2, 100, BAD).edges("near 0 # 1", 0, 0, 95, 0, BAD).edges("near 1 20 #", 0, 24, 1, 0, BAD);
        rich.refused("near 3 96 2", BAD).asks("near 0 0 0", 0);
        net().refused("near 1 0 0", NONE).refused("near 1 0 1", NONE).edges("near # 0 0", 0, NONE, 3, NONE, BAD);
        rope.refused("near 0 92 1", NONE).edges("near 1 # 0", 0, NONE, 95, 95, BAD).edges("near 1 14 #", 0, 14, 1, 100, BAD);
        Scenes.full(due).edges("near # 95 0", 0, 95, 11, 95, BAD);
        Scenes.empty(due).refused("near 0 0 0", BAD).and("place 0").refused("near 0 0 0", NONE).refused("near 0 95 1", NONE);
    }

    public static void main(String[] arguments) {
        ropes();
        ends();
        waiting();
        beds();
        where();
        near();
        due.close();
    }
}
