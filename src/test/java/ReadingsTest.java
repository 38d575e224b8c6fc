import java.util.ArrayList;
import java.util.List;

/** The sentences whose reading was doubted, each tested for what its words ask, in more states than the other tests have. */
public final class ReadingsTest {
    private static final int BAD = -1, NONE = -4, BAD_ROPING = -1000, NO_ROPING = -1004;
    private static final Due due = new Due();

    private static Scene going() {
        return Scenes.calm(Scenes.empty(due)).and("place 1", "place 1", "step 0 1 0 1 0 false", "route 0", "tell pay 100;ask people;");
    }

    /** "Not ahead of it": the day itself is not ahead of the day, so it is taken, and all come in. */
    private static void sameDay() {
        due.says(21, "The day becomes another one, not ahead of it (0 to 999): what it was.");
        Scene out = going().times(3, "guide 0 # 999").and("go 0 0 2");
        for (int day : new int[] {0, 1, 500, 998, 999}) {
            Run run = out.and("day " + day, "go 0 0 1").start();
            run.is("count 10", 1).is("day " + day, day).is("count 10", 0).is("count 9", day).is("day " + day, day);
            run.is("day " + (day - 1), BAD).is("count 9", day);
        }
        due.says(21, "All GUIDES are OUT no more.");
        Run same = out.start();
        same.each("told # 4", 1, 1, 0).is("day 0", 0).each("told # 4", 0, 0, 0).each("list #", 2, 0, 1, BAD).each("told # 5", 45, 45, 0);
        same.is("go 0 0 3", 3).is("count 10", 3).is("day 1000", BAD).is("count 10", 3).is("day -1", BAD).is("count 10", 3);
        out.and("day 0").alike("day 0", "fault", "nothing");
        due.says(18, "PAPERS hold up to another day: up to which they did.");
        for (int day : new int[] {0, 1, 500, 998, 999}) {
            Scene papers = going().and("guide 0 0 " + day, "guide 0 0 7");
            papers.asks("papers 0 " + day, day);
            papers.start().is("papers 0 0", day).is("papers 0 0", 0).is("papers 0 999", 0).is("papers 0 999", 999).is("papers 1 7", 7);
        }
        // The day does not bound them: they may end ahead of it.
        going().and("guide 0 0 9", "day 5").start().is("papers 0 4", 9).is("go 0 0 1", NONE).is("papers 0 5", 4).is("go 0 0 1", 1);
    }

    /** All of nobody are put into no rope: it is a roping of no worth, whatever is the least. */
    private static void nobody() {
        due.terms("ROPING: all are put into ropes of two or three so that the sum of STRENGTHS of each is at least LEAST (0 to 30);");
        for (int least = 0; least <= 30; least++) {
            Run run = new Run(due).is("roping " + least + " 0", 0).is("roping " + least + " 1", 0).is("roping " + least + " 10", BAD_ROPING);
            run.is("person 9", 0).is("roping " + least + " 0", NO_ROPING).is("roping " + least + " 1", NO_ROPING);
            run.is("roping " + least + " 10", NO_ROPING).is("roping " + least + " 11", BAD_ROPING);
        }
        due.says(33, "BAD -1000; -1004: there is none.");
        Scenes.empty(due).edges("roping # 0", 0, 0, 30, 0, BAD_ROPING).edges("roping # 1", 0, 0, 30, 0, BAD_ROPING);
        Scenes.empty(due).edges("roping 5 #", 0, 0, 1, 0, BAD_ROPING);
    }

    /** Of n bytes that are not there none is the first: a number not as told. */
    private static void endBehindTheTape() {
        due.says(23, "THE TAPE keeps its first n bytes: how many it had.");
        for (int fed = 0; fed <= 30; fed++) {
            Run run = new Run(due);
            for (int i = 0; i < fed; i++) {
                run.is("feed " + Texts.eight("pay 1 ; ", 0), 8 * (i + 1));
            }
            int had = 8 * fed;
            run.is("end " + (had + 1), BAD).is("end 241", BAD).is("end -1", BAD).is("count 12", had).is("end " + had, had);
            if (had < 240) {
                run.is("end 240", BAD).is("count 12", had);
            }
        }
        due.says(23, "BAD.");
        // What was cut off does not come back.
        Run cut = new Run(due).does("tape pay 1;ask 2;").is("end 6", 12).is("end 12", BAD).is("end 7", BAD).is("end 6", 6).is("text", 1);
        cut.is("count 4", 1).is("end 6", BAD).is("end 1", BAD).is("end 0", 0);
    }

    private static void pays(String text, int pay) {
        going().and("tell " + text).start().is("pay 0 0 1", pay);
    }

    /** Each sum is held by its own signs, the lines' sum only once they are all in it: so their order is free. */
    private static void heldOnce() {
        due.terms("PAY: the sum of all lines pay (held to 0 to 1000000);");
        String much = "pay 1000*1000;";
        String less = "pay 0-1000*1000;";
        String[] orders = {much + much + less, much + less + much, less + much + much};
        for (String order : orders) {
            pays(order, 1000000);
            pays(order + less, 0);
            pays(order + less + "pay 7;", 7);
            pays("pay 7;" + order + less, 7);
            pays(order + less + less + "pay 7;", 0);
            pays(order + "pay 0-7;", 999993);
            pays("pay 0-7;" + order, 999993);
        }
        pays(much + much + much + much + much + much + less + less + less + less + less + "pay 0-1;", 999999);
        due.terms("Sums are held to -1000000 to 1000000 after each sign.");
        pays("pay 1000*1000+1000*1000-1000*1000;", 0);
        pays("pay 0-1000*1000-1000*1000+1000*1000+7;", 7);
        pays("pay 1000*1000+(1000*1000-1000*1000);", 1000000);
        // The parts are of what is held, not of what the lines would come to.
        Run run = going().and("guide 0 0 9", "tell " + much + much).start();
        run.is("go 0 0 1", 1).is("told 0 5", 900000).is("count 8", 100000);
    }

    /** Those that came since stand behind the IMAGE's in the order in which all guides first stand: by numbers. */
    private static void sinceTheImage() {
        due.says(47, "All that is as in the IMAGE (GUIDES that came since are OUT no more, last in THE LIST, have 0): how many GUIDES it has.");
        for (int known = 0; known <= 8; known++) {
            Scene scene = going().times(known, "guide 0 # 999").and("image").times(8 - known, "guide 0 0 999");
            List<Long> byNumbers = new ArrayList<>();
            for (long g = 0; g < 8; g++) {
                byNumbers.add(g);
            }
            // They went one by one, but for the last, so that THE LIST had turned round.
            Run run = scene.times(7, "go 0 0 1").and("give 80", "share 255").start();
            run.is("list 0", 7).is("list 1", 0).is("list 7", 6).is("back", known).is("count 3", 8).is("count 10", 0);
            for (int g = 0; g < 8; g++) {
                run.is("list " + g, byNumbers.get(g)).is("told " + g + " 3", g).is("told " + g + " 4", 0).is("told " + g + " 5", 0).is("told " + g + " 6", 0);
            }
            run.is("count 8", 0).is("back", known);
        }
        // The IMAGE's are as they were in it, those that came since by numbers behind them, whoever went when.
        Scene mixed = going().times(3, "guide 0 # 999").and("go 0 0 2", "give 30", "image", "day 4").times(3, "guide 5 # 999");
        Run run = mixed.and("go 0 0 4", "go 0 0 1").start();
        run.each("list #", 5, 2, 0, 1, 3, 4, BAD).is("back", 3).each("list #", 2, 0, 1, 3, 4, 5, BAD).each("told # 4", 1, 1, 0, 0, 0, 0);
        run.each("told # 5", 45, 45, 0, 0, 0, 0).is("count 9", 0).is("count 8", 40).is("count 10", 2);
        // They are still the guides that they were, and those of another IMAGE.
        run.is("told 5 0", 5).is("told 5 1", 2).is("told 5 2", 999).is("image", 1).is("guide 1 1 1", 6).is("go 0 0 3", 3).is("back", 6)
            .each("list #", 2, 0, 1, 3, 4, 5, 6, BAD).is("count 10", 2);
    }

    public static void main(String[] arguments) {
        sameDay();
        nobody();
        endBehindTheTape();
        heldOnce();
        sinceTheImage();
        due.close();
    }
}
