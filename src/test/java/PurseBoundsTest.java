/** Promises 44 to 48, sentence by sentence, at their bounds: the purse, images, counts. */
public final class PurseBoundsTest {
    private static final int BAD = -1, STATE = -2, FULL = -3, NONE = -4;
    private static final Due due = new Due();

    private static Scene guides(int n) {
        return Scenes.empty(due).times(n, "guide 0 0 0");
    }

    private static void give() {
        due.says(44, "Pence (1 to 100000) come to THE PURSE: how many it has.");
        new Run(due).is("give 1", 1).is("give 100000", 100001).is("give 99999", 200000).is("give 1", 200001).is("count 8", 200001);
        mostInAllCalls();
        due.says(44, "BAD; FULL: more than 1000000000.");
        Scenes.empty(due).edges("give #", 1, 1, 100000, 100000, BAD);
        Scenes.rich(due).edges("give #", 1, 722, 100000, 100721, BAD);
        Scenes.full(due).edges("give #", 1, 6, 100000, 100005, BAD);
        for (Scene scene : new Scene[] {Scenes.empty(due), Scenes.rich(due), Scenes.full(due)}) {
            fullAt(scene);
        }
    }

    /** None of the 512 calls that an object bears is refused, whichever of the two ways the pence come. */
    private static void mostInAllCalls() {
        Run run = new Run(due);
        for (int i = 1; i <= Run.MOST_CALLS; i++) {
            run.is("give 100000", 100000 * i);
        }
        Run tenths = going().and("guide 0 0 999", "tell pay 9999*9999;").start();
        int purse = 0;
        while (tenths.calls() + 3 <= Run.MOST_CALLS) {
            tenths.is("go 0 0 1", 1).is("day 0", 0).is("give 100000", purse + 200000);
            purse += 200000;
        }
        tenths.is("count 8", purse);
    }

    /** No calls bring so much, so it is put there: 1000000000 is still taken, one more is not. */
    private static void fullAt(Scene scene) {
        scene.and("purse 999899999").taken("give 100000", 999999999);
        scene.and("purse 999900000").taken("give 100000", 1000000000).refused("give 100001", BAD);
        scene.and("purse 999900001").refused("give 100000", FULL).taken("give 99999", 1000000000);
        scene.and("purse 999999999").taken("give 1", 1000000000).refused("give 2", FULL).refused("give 0", BAD);
        scene.and("purse 1000000000").refused("give 1", FULL).refused("give 100000", FULL).refused("give 100001", BAD)
            .refused("give 0", BAD).refused("give -1", BAD).refused("give " + Integer.MIN_VALUE, BAD).refused("give " + Integer.MAX_VALUE, BAD);
    }

    private static void share() {
        due.says(45, "OUT to some GUIDES: how much each has.");
        due.terms("PURSE: paid in as whole pence; OUT: to some GUIDES (bits) in equal parts divided down; what is over stays in it.");
        Run run = guides(8).and("give 100").start();
        run.is("share 7", 33).is("count 8", 1).each("told # 6", 33, 33, 33, 0, 0, 0, 0, 0).is("give 254", 255).is("share 255", 31).is("count 8", 7);
        run.each("told # 6", 64, 64, 64, 31, 31, 31, 31, 31).is("share 128", 7).is("told 7 6", 38).is("count 8", 0).each("told # 5", 0, 0, 0, 0, 0, 0, 0, 0);
        run.is("give 8", 8).is("share 255", 1).is("count 8", 0).is("give 15", 15).is("share 255", 1).is("count 8", 7).is("share 127", 1).is("count 8", 0);
        run.is("give 3", 3).is("share 129", 1).is("count 8", 1).is("told 0 6", 68).is("told 7 6", 41).is("told 6 6", 34).is("count 10", 0);
        due.says(45, "BAD: none, or one that is not there; STATE: each would have nothing.");
        for (int n = 1; n <= 8; n++) {
            Scene scene = guides(n).and("give 24");
            scene.edges("share #", 1, 24, (1 << n) - 1, 24 / n, BAD);
            scene.refused("share " + (1 << n | 1), BAD).refused("share " + (Integer.MIN_VALUE | 1), BAD).refused("share " + (1 << 30 | 1), BAD);
            Scene one = guides(n).and("give 1");
            one.taken("share 1", 1).taken("share " + (1 << n - 1), 1);
            if (n > 1) {
                one.refused("share " + ((1 << n) - 1), STATE).refused("share 3", STATE);
                guides(n).and("give " + n).taken("share " + ((1 << n) - 1), 1);
                guides(n).and("give " + (n - 1)).refused("share " + ((1 << n) - 1), STATE);
            }
            // The first that fits: in an empty purse too there is no such guide.
            guides(n).refused("share 1", STATE).refused("share 0", BAD).refused("share " + (1 << n), BAD).refused("share -1", BAD);
        }
        Scenes.empty(due).refused("share 1", BAD).refused("share 0", BAD).and("give 5").refused("share 1", BAD).refused("share 0", BAD);
        Scenes.rich(due).edges("share #", 1, 721, 31, 144, BAD).refused("share 32", BAD);
        Scenes.full(due).edges("share #", 1, 5, 255, STATE, BAD).refused("share 63", STATE).refused("share 252", STATE).taken("share 192", 2);
    }

    private static Scene going() {
        return Scenes.calm(Scenes.empty(due)).and("place 1", "place 1", "step 0 1 0 1 0 false", "route 0", "tell pay 100;ask people;");
    }

    private static void images() {
        due.says(46, "An IMAGE is taken: THE LIST, the day, who is OUT, pence had, THE PURSE: 1 (the one that was there goes).");
        due.says(47, "All that is as in the IMAGE (GUIDES that came since are OUT no more, last in THE LIST, have 0): how many GUIDES it has.");
        Scene taken = going().times(3, "guide 1 # 500").and("day 4", "go 0 0 1", "give 51", "share 6", "image");
        Run run = taken.start();
        run.is("count 8", 1).is("back", 3).each("list #", 1, 2, 0, BAD).each("told # 4", 1, 0, 0).each("told # 5", 90, 0, 0).each("told # 6", 0, 30, 30);
        run.is("day 9", 4).is("go 0 0 2", 2).is("give 500", 511).is("share 1", 511).is("papers 2 77", 500).is("guide 5 9 999", 3).is("guide 4 8 888", 4);
        run.is("go 0 0 3", 3).each("list #", 1, 2, 0, 3, 4, BAD).is("count 10", 5).is("told 4 5", 30).is("give 44", 53).is("share 24", 26);
        run.is("count 9", 9).is("back", 3).is("count 9", 4).is("count 8", 1).is("count 10", 1).is("count 3", 5).each("list #", 1, 2, 0, 3, 4, BAD);
        run.each("told # 3", 2, 0, 1, 3, 4).each("told # 4", 1, 0, 0, 0, 0).each("told # 5", 90, 0, 0, 0, 0).each("told # 6", 0, 30, 30, 0, 0);
        run.is("told 2 2", 77).is("told 3 2", 999).is("told 4 0", 4).is("count 4", 2).is("day 3", BAD).is("day 4", 4).is("count 10", 0);
        run.is("back", 3).is("count 10", 1).is("told 0 4", 1);
        // What comes ahead of the IMAGE's guides in THE LIST goes behind them.
        Run mixed = going().and("guide 1 1 9", "guide 1 1 9", "image", "guide 1 1 9", "go 0 0 2", "guide 1 1 9").start();
        mixed.each("list #", 2, 0, 1, 3, BAD).is("back", 2).each("list #", 0, 1, 2, 3, BAD).is("count 10", 0);
        Run newer = taken.and("day 7", "give 6").start();
        newer.is("image", 1).is("day 8", 7).is("give 1", 8).is("back", 3).is("count 9", 7).is("count 8", 7).is("told 0 4", 0).is("back", 3);
        Run none = guides(0).and("image").start();
        none.is("back", 0).is("guide 1 1 1", 0).is("day 5", 0).is("give 7", 7).is("share 1", 7).is("back", 0).is("count 3", 1).is("count 9", 0)
            .is("told 0 6", 0).is("told 0 3", 0).is("list 0", 0);
        Run all = going().times(8, "guide 1 1 9").and("go 0 0 3", "image", "day 9", "go 0 0 8", "share 1").start();
        all.is("back", 8).each("list #", 3, 4, 5, 6, 7, 0, 1, 2, BAD).each("told # 4", 1, 1, 1, 0, 0, 0, 0, 0).is("count 9", 0);
        due.says(47, "All that is as in the IMAGE (GUIDES that came since are OUT no more, last in THE LIST, have 0): how many GUIDES it has.");
        Scenes.rich(due).and("image").asks("back", 5).asks("image", 1);
        Scenes.full(due).and("image").asks("back", 8);
        // Neither what the net, the weather, the statute are nor people, ropes, hours, the tape is of the IMAGE.
        Scenes.empty(due).and("image").alike("back", "day 0", "nothing");
        Scene rich = Scenes.rich(due);
        rich.and("image").alike("back", "image", "nothing");
        due.says(47, "NONE.");
        Scenes.empty(due).refused("back", NONE).and("guide 0 0 0", "give 5").refused("back", NONE);
        Scenes.rich(due, "pieces").refused("back", NONE);
        guides(8).refused("back", NONE);
    }

    private static void count() {
        due.says(48, "How many: 0 PLACES, 1 STEPS, 2 ROUTES, 3 GUIDES, 4 lines, 5 PEOPLE, 6 ROPES, 7 entries, 8 pence in THE PURSE, 9 the day, "
            + "10 GUIDES that are OUT, 11 ropes that TURNED in A DAY, 12 bytes on THE TAPE.");
        Scenes.rich(due).start().each("count #", 3, 5, 2, 5, 4, 5, 3, 4, 721, 6, 1, 1, 12, BAD);
        Scenes.full(due).start().each("count #", 12, 20, 6, 8, 12, 9, 8, 14, 5, 2, 2, 0, 240, BAD);
        Scenes.full(due).and("day 3").start().is("count 11", 8).is("tell ", 0).is("count 11", 0).is("tear 2", 1).is("count 4", 0).is("count 12", 0);
        Scenes.empty(due).start().each("count #", 0, 0, 0, 0, 0, 0, 0, 0, 0, 0, 0, 0, 0, BAD);
        due.says(48, "BAD.");
        Scenes.empty(due).edges("count #", 0, 0, 12, 0, BAD);
        Scenes.rich(due).edges("count #", 0, 3, 12, 12, BAD).asks("count 11", 1);
        Scenes.full(due).edges("count #", 0, 12, 12, 240, BAD);
    }

    public static void main(String[] arguments) {
        give();
        share();
        images();
        count();
        due.close();
    }
}
