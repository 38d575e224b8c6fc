/** Promises 22 to 28, sentence by sentence, at their bounds: the tape, the text told by it, what the statute says. */
public final class StatuteBoundsTest {
    private static final int BAD = -1, FULL = -3, NONE = -4;
    private static final Due due = new Due();

    /** Route 0 of hard 0 and length 1; route 1 of six steps of hard 5 and length 9; calm. */
    private static Scene routes() {
        Scene scene = Scenes.calm(Scenes.empty(due)).and("place 1", "place 1", "step 0 1 0 1 0 false", "step 0 1 0 9 5 false",
            "step 1 0 0 9 5 false", "route 0", "route 1");
        return scene.and("on 1 2", "on 1 1", "on 1 2", "on 1 1", "on 1 2");
    }

    private static String times(int n, String text) {
        return text.repeat(n);
    }

    private static void tape() {
        due.says(22, "Eight bytes come behind THE TAPE, the highest first: how many it has.");
        Run run = new Run(due).is("feed " + Texts.eight("pay 12; ", 0), 8).is("feed " + Texts.eight("pay 3;  ", 0), 16);
        run.is("count 12", 16).is("text", 2).does("place 1", "place 1", "step 0 1 0 1 0 false", "route 0").is("pay 0 0 1", 15);
        run.is("feed -1", 8).is("text", -10).is("fault", 1).is("feed " + Long.MIN_VALUE, 8).is("text", -10).is("fault", 1);
        // The last byte is 1, those ahead of it are blanks; then the other way about.
        run.is("feed 2314885530818453505", 8).is("text", -17).is("feed 9223372036854775807", 8).is("text", -10);
        run.is("feed " + Texts.eight("pay 255;", 0), 8).is("text", 1).is("pay 0 0 1", 255);
        due.says(22, "FULL: more than 240.");
        due.terms("THE TAPE has 240 bytes, places from 0.");
        Run filled = new Run(due);
        for (int i = 1; i <= 30; i++) {
            filled.is("feed 2314885530818453536", 8 * i);
        }
        filled.is("feed 0", FULL).is("count 12", 240).is("end 233", 240).is("feed 0", FULL).is("end 232", 233).is("feed 0", 240);
        filled.is("end 1", 240).is("feed 2314885530818453536", 9).is("text", 0).is("feed 0", 8);
        Scene full = Scenes.full(due);
        full.refused("feed 0", FULL).refused("feed -1", FULL).refused("feed " + Texts.eight("pay 1;  ", 0), FULL);
        full.and("end 233").refused("feed 0", FULL).and("end 232").taken("feed 0", 240);
        full.and("end 239").refused("feed 0", FULL);

        due.says(23, "THE TAPE keeps its first n bytes: how many it had.");
        Run kept = routes().and("tape pay 12;pay 34;").start();
        kept.is("end 14", 14).is("end 13", 14).is("count 12", 13).is("end 7", 13).is("end 7", 7).is("text", 1).is("pay 0 0 1", 12);
        kept.is("end 0", 0).is("end 1", BAD).is("text", 0).is("pay 0 0 1", 0);
        kept.does("tape pay 12;").is("end 6", 7).is("text", -16).is("fault", 2).is("feed " + Texts.eight("pay 5678", 0), 8);
        kept.is("end 5", 8).is("feed " + Texts.eight("; ask 2;", 0), 13).is("text", 2).is("pay 0 0 1", 5).is("asked 0 0 1", 2);
        due.says(23, "BAD.");
        Scenes.rich(due).edges("end #", 0, 12, 12, 12, BAD).and("end 5").edges("end #", 0, 5, 5, 5, BAD);
        Scenes.empty(due).edges("end #", 0, 0, 0, 0, BAD);
        full.edges("end #", 0, 240, 240, 240, BAD).and("text").edges("end #", 0, 0, 0, 0, BAD);
    }

    private static void told() {
        due.says(24, "THE TAPE (empty then) tells the statute: how many lines; -10 less the place of its FAULT: that which was told stays.");
        Scene rich = Scenes.rich(due);
        rich.start().is("count 12", 12).is("count 4", 4).is("text", 2).is("count 12", 0).is("count 4", 2).is("pay 0 0 1", 7)
            .is("asked 0 0 1", 2).is("why 0 95 1", NONE).is("text", 0).is("count 4", 0).is("pay 0 0 1", 0).is("asked 0 0 9", 1);
        String[] texts = {"", " ", times(240, " "), times(12, "ask 1;"), times(12, "ask 1;") + " ", "bar 1=1;" + times(11, "pay 1 ; "),
            "pay " + times(117, "1*") + "1;", times(228, " ") + "pay 1;pay 2;"};
        int[] lines = {0, 0, 0, 12, 12, 12, 1, 2};
        for (int i = 0; i < texts.length; i++) {
            routes().and("tell pay 9;").start().is("tell " + texts[i], lines[i]).is("count 4", lines[i]).is("count 12", 0).is("fault", 0);
        }
        due.terms("text: { line } line: bar test ; | pay sum ; | ask sum ; | back test ;");
        Scene kinds = routes().and("tell bar people=9;pay 4;ask 3;back 1=1;", "rope 0 9 10 1");
        kinds.start().is("count 4", 4).is("why 0 0 9", 0).is("pay 0 0 1", 4).is("asked 0 0 1", 3).is("went 0 2", 1);
        kinds.and("tell back 1=2;ask 5;pay 6;bar 1=1;").start().is("count 4", 4).is("why 0 0 9", 3).is("pay 0 0 1", 6).is("asked 0 0 1", 5)
            .is("went 0 2", 0);
        due.says(25, "The FAULT of the latest text(); 0.");
        Run run = new Run(due).is("fault", 0).is("tell ?", -10).is("fault", 1).is("fault", 1).is("end 0", 0).is("fault", 1);
        run.is("tell pay", -13).is("fault", 2).is("tell pay (((((((", -20).is("fault", 3).is("text", 0).is("fault", 0);
        run.is("tell " + times(13, "pay 1;"), -82).is("fault", 4).is("tell pay 1;", 1).is("fault", 0).is("tell ", 0).is("fault", 0);
        // What was left open by a text with a FAULT is not met by the next one.
        for (String open : new String[] {"bar not 1", "bar not not 1<", "pay 2*", "pay 3-(4", "bar 1<2 or", "bar 1<2 and not", "pay ((((((1", "bar 1"}) {
            Run next = routes().start();
            next.is("tell " + open, -10 - open.length()).is("fault", 2).is("tell pay 9;bar 9>1;ask ((((((5))))));", 3);
            next.is("pay 0 0 1", 9).is("why 0 0 1", 1).is("asked 0 0 1", 5);
        }
    }

    /** A text with a FAULT: its place and number; what was told stays, and all else. */
    private static void fault(String text, int place, int fault) {
        Scene rich = Scenes.rich(due);
        rich.taken("tell " + text, -10 - place);
        rich.alike("tell " + text, "end 0", "fault");
        rich.and("tell " + text).taken("fault", fault);
    }

    private static void noToken() {
        due.terms("FAULTS, the first met as it is read (a TOKEN is read when the one before has been taken): 1 no TOKEN, a NAME that is "
            + "none of these (bar pay ask back or and not, VARIABLES), a NUMBER that is too long (its first byte).");
        int[] bytes = {0, 9, 10, 31, 33, 34, 38, 39, 44, 46, 47, 58, 63, 64, 65, 90, 91, 96, 123, 126, 127, 128, 160, 168, 225, 255};
        for (int one : bytes) {
            Run run = routes().start();
            String text = "pay " + (char) one + "1;";
            run.is("tell " + text, -14).is("fault", 1).is("tell pay 1" + (char) one + ";", -15).is("fault", 1);
            run.is("tell " + (char) one, -10).is("fault", 1).is("tell pay 1;" + (char) one, -16).is("fault", 1);
        }
        fault("?", 0, 1);
        fault("  ?", 2, 1);
        fault("pay 1;" + times(233, " ") + "?", 239, 1);
        String[] names = {"ba", "bars", "pa", "pays", "as", "asks", "bac", "backs", "o", "orr", "an", "ands", "no", "nott", "win", "winds", "rai",
            "rains", "sno", "snows", "quarte", "quarters", "grad", "grades", "peopl", "peoples", "har", "hards", "lengt", "lengths", "da",
            "days", "a", "z", "barpay", "aa", "zz"};
        for (String name : names) {
            fault(name, 0, 1);
            fault("pay " + name + ";", 4, 1);
        }
        fault("pay 10000;", 4, 1);
        fault("pay 00000;", 4, 1);
        fault("pay 1+99999;", 6, 1);
        fault("pay " + times(236, "9"), 4, 1);
        fault("pay 12345", 4, 1);
        fault("barwind>3;", 0, 1);
        fault("bar 1<2or 2>1 an;", 14, 1);
        // The first met: the next TOKEN is read when this one has been taken, and not ahead of that.
        fault("pay 1 12345;", 6, 1);
        fault("pay 1 1 12345;", 6, 2);
        fault("pay ) ?", 4, 2);
        fault("pay 1 ?", 6, 1);
        fault("pay ((((((12345", 10, 1);
        fault("pay (((((((12345", 10, 3);
        fault("pay (((((((?", 10, 3);
        fault(times(12, "pay 1;") + "?", 72, 1);
        fault(times(12, "pay 1;") + "bar ?", 72, 4);
        fault("wind ?", 0, 2);
    }

    private static void outOfPlace() {
        due.terms("2 a TOKEN that can not stand there (or the end: the length).");
        // Behind each of these everything else is out of place; the first of each row is what is there already.
        String[] all = {"bar", "pay", "ask", "back", "or", "and", "not", "wind", "7", "(", ")", "+", "-", "*", "<", ">", "=", ";", ""};
        outOfPlace("", all, "bar pay ask back");
        outOfPlace("pay", all, "wind 7 (");
        outOfPlace("ask", all, "wind 7 (");
        outOfPlace("bar", all, "wind 7 ( not");
        outOfPlace("back", all, "wind 7 ( not");
        outOfPlace("bar not", all, "wind 7 ( not");
        outOfPlace("back not not", all, "wind 7 ( not");
        outOfPlace("pay 1", all, "+ - * ;");
        outOfPlace("ask day", all, "+ - * ;");
        outOfPlace("pay 1 +", all, "wind 7 (");
        outOfPlace("pay 1 -", all, "wind 7 (");
        outOfPlace("pay 1 *", all, "wind 7 (");
        outOfPlace("pay (", all, "wind 7 (");
        outOfPlace("pay ( 1", all, "+ - * )");
        outOfPlace("pay ( 1 )", all, "+ - * ;");
        outOfPlace("pay ( ( 1 )", all, "+ - * )");
        outOfPlace("bar 1", all, "+ - * < > =");
        outOfPlace("bar ( 1", all, "+ - * )");
        outOfPlace("bar ( 1 )", all, "+ - * < > =");
        outOfPlace("bar (", all, "wind 7 (");
        outOfPlace("bar 1 +", all, "wind 7 (");
        outOfPlace("bar 1 <", all, "wind 7 (");
        outOfPlace("back 1 >", all, "wind 7 (");
        outOfPlace("bar not 1 =", all, "wind 7 (");
        outOfPlace("bar not 1", all, "+ - * < > =");
        outOfPlace("bar 1 < 2", all, "+ - * or and ;");
        outOfPlace("back 1 = ( 2 )", all, "+ - * or and ;");
        outOfPlace("bar 1 < ( 2", all, "+ - * )");
        outOfPlace("bar 1 < 2 *", all, "wind 7 (");
        outOfPlace("bar 1 < 2 or", all, "wind 7 ( not");
        outOfPlace("bar 1 < 2 and", all, "wind 7 ( not");
        outOfPlace("bar 1 < 2 and not 1", all, "+ - * < > =");
        outOfPlace("bar 1 < 2 or 2 > 1", all, "+ - * or and ;");
        outOfPlace("pay 1 ;", all, "bar pay ask back");
        outOfPlace("bar 1 = 1 ;", all, "bar pay ask back");
        fault("pay", 3, 2);
        fault("pay  ", 5, 2);
        fault("pay 1", 5, 2);
        fault("bar 1<2", 7, 2);
        fault(times(235, " ") + "pay 1", 240, 2);
        fault(times(237, " ") + "pay", 240, 2);
        fault(times(239, " ") + ";", 239, 2);
        fault("pay 1;;", 6, 2);
        fault("bar (1<2);", 6, 2);
        fault("bar 1<2<3;", 7, 2);
        fault("bar (not 1<2);", 5, 2);
        fault("pay 1 2;", 6, 2);
        fault("pay wind3;", 8, 2);
    }

    /** What may not stand behind that, of all there is, is a FAULT at its place; what may is none there. */
    private static void outOfPlace(String ahead, String[] all, String may) {
        for (String token : all) {
            String text = ahead.isEmpty() || token.isEmpty() ? ahead + token : ahead + " " + token;
            int place = text.length() - token.length();
            boolean isLast = (" " + may + " ").contains(" " + token + " ");
            boolean isEnd = token.isEmpty() && (ahead.isEmpty() || ahead.endsWith(";"));
            Run run = routes().start();
            if (isEnd || token.equals(";") && isLast) {
                run.is("tell " + text, ahead.isEmpty() ? 0 : 1).is("fault", 0);
            } else {
                run.is("tell " + text, -10 - (isLast ? text.length() : place)).is("fault", 2);
            }
        }
    }

    private static void tooMany() {
        due.terms("3 the 7th ( open at once (it).");
        due.terms("( open at once 6 at most; 12 lines at most.");
        routes().start().is("tell pay ((((((1))))));", 1).is("pay 0 0 1", 1).is("tell bar ((((((1))))))<((((((2))))));ask ((((((4))))));", 2)
            .is("why 0 0 1", 0).is("asked 0 0 1", 4).is("tell pay (1)+(2)+(3)+(4)+(5)+(6)+(7)+(8);", 1).is("pay 0 0 1", 36)
            .is("tell pay (((((1+(2)+(3))))))+((((((4))))));", 1).is("pay 0 0 1", 10);
        fault("pay (((((((1)))))));", 10, 3);
        fault("pay ( ( ( ( ( ( ( 1", 16, 3);
        fault("ask (((((1+(2)+((3", 16, 3);
        fault("bar 1=(((((((1)))))));", 12, 3);
        fault("back not (((((((1)))))))=1;", 15, 3);
        fault("pay ((((((1))))))+(((((((", 24, 3);
        fault("pay ((((((1(", 11, 2);
        fault("pay (((((( ;", 11, 2);
        due.terms("4 the 13th line (its NAME: bar, pay, ask, back).");
        for (String name : new String[] {"bar", "pay", "ask", "back"}) {
            fault(times(12, "pay 1;") + name, 72, 4);
            fault(times(12, "pay 1;") + "  " + name + " 1;", 74, 4);
            Run run = routes().start();
            String test = name.equals("bar") || name.equals("back") ? " 1=2;" : " 1;";
            run.is("tell " + times(11, "pay 1;") + name + test, 12).is("count 4", 12).is("fault", 0);
            run.is("tell " + times(12, name + test) + name, -10 - 12 * (name.length() + test.length())).is("fault", 4).is("count 4", 12);
        }
        fault(times(12, "pay 1;") + "or", 72, 2);
        fault(times(12, "pay 1;") + "7", 72, 2);
        fault(times(12, "pay 1;") + ";", 72, 2);
        fault(times(11, "pay 1;") + "pay 1", 71, 2);
    }

    private static void tokens() {
        due.terms("TOKENS, each as long as may be, blanks (32) between: NAMES (a .. z), NUMBERS (1 to 4 figures), one ( ) + - * < > = ; .");
        Run run = routes().start();
        run.is("tell pay1;", 1).is("pay 0 0 1", 1).is("tell pay 9999;", 1).is("pay 0 0 1", 9999).is("tell pay 0;", 1).is("pay 0 0 1", 0);
        run.is("tell pay 0009;pay 0000;", 2).is("pay 0 0 1", 9).is("tell pay(2)*(3);", 1).is("pay 0 0 1", 6);
        run.is("tell pay 12", -16).is("tell   pay   1   ;   ", 1).is("tell bar not1<2;", 1).is("why 0 0 1", NONE);
        run.is("tell bar 1<2and 2<3or 3<4;back1=1;", 2).is("why 0 0 1", 0).is("tell pay 1 2", -16).is("fault", 2);
        run.is("tell pay 1 000;", -16).is("fault", 2).is("tell pay people*2;", 1).is("pay 0 0 3", 6).is("tell pay people2;", -20).is("fault", 2);
    }

    private static void holds(String test, boolean so) {
        Run run = routes().start();
        run.is("tell bar " + test + ";", 1).is("why 0 0 1", so ? 0 : NONE);
        // Told again behind a longer one, of which nothing is left.
        run.is("tell bar not " + test + " and 1=1;", 1).is("tell bar not " + test + ";", 1);
        run.is("tell bar " + test + ";", 1).is("why 0 0 1", so ? 0 : NONE);
    }

    private static void why() {
        due.says(26, "The line (from 0 on) by which a ROUTE is REFUSED in a QUARTER with people (1 to 9).");
        due.terms("A ROUTE on a day in a QUARTER with so many people is REFUSED by the first line bar whose test holds; PAY: the sum of "
            + "all lines pay (held to 0 to 1000000); GUIDES ASKED: the greatest of all lines ask, at least 1, at most 8.");
        Run run = routes().start();
        run.is("tell bar 1=1;bar 1=1;", 2).is("why 0 0 1", 0).is("tell bar 1=2;bar 1=1;bar 1=1;", 3).is("why 0 0 1", 1);
        run.is("tell " + times(11, "pay 1;") + "bar 1=1;", 12).is("why 0 0 1", 11).is("tell " + times(11, "back 1=1;") + "bar 1=1;", 12);
        run.is("why 0 0 1", 11).is("tell back 1=1;pay 1;ask 1;", 3).is("why 0 0 1", NONE).is("text", 0).is("why 0 0 1", NONE);
        due.terms("test: part { or part } part: one { and one } one: not one | sum < sum | sum > sum | sum = sum");
        String[] yes = {"1<2", "2>1", "2=2", "not 2<2", "not 1>1", "not 1=2", "not not 1=1", "1=2 or 1=1", "1=1 or 1=2", "1=1 and 2=2",
            "1=1 or 1=1 and 1=2", "1=2 and 1=1 or 1=1", "not 1=2 and 1=1", "not 1=2 or 1=1", "not 1=1 or 1=1", "1=1 and not 1=2",
            "1=2 or 1=2 or 1=1", "1=1 and 1=1 and 1=1"};
        String[] no = {"2<2", "3<2", "1>1", "1>2", "1=2", "not 1=1", "not not 1=2", "1=2 or 1=2", "1=1 and 1=2", "1=2 and 1=1",
            "1=2 or 1=1 and 1=2", "not 1=1 and 1=2", "not 1=1 or 1=2", "1=1 and not 1=1", "1=1 and 1=1 and 1=2", "1=2 or 1=2 or 1=2"};
        for (String test : yes) {
            holds(test, true);
        }
        for (String test : no) {
            holds(test, false);
        }
        due.terms("sum: product { + product | - product } product: value { * value } value: NUMBER | VARIABLE | ( sum )");
        for (String test : new String[] {"9-3-2=4", "9-(3-2)=8", "2+3*4=14", "(2+3)*4=20", "2*3+4*5=26", "20-2*3-1=13", "2*(3+4)*5=70", "1-2<0", "((7))=7",
            "1<2+3", "1>2-3", "6=2*3", "1=3-2", "1<2*3", "9>2*3", "2+3>1", "2-3<1", "2*3=6", "2*3>1+1", "1+1<2*3", "1+2=2+1"}) {
            holds(test, true);
        }
        due.terms("Sums are held to -1000000 to 1000000 after each sign.");
        String[] held = {"1000*1000=9999*9999", "1000*1000-1<9999*9999", "1000*1000+1=1000*1000", "1000*1000+1-1=999*1000+999",
            "999*1001+1=1000*1000", "0-1000*1000=0-9999*9999", "0-1000*1000-1=0-1000*1000", "0-1000*1000-1+1=0-999*1000-999",
            "0-9999*9999+1=0-999*1000-999", "(0-9999)*9999=0-1000*1000", "(0-1000)*1000=0-1000*1000", "9999*9999*9999=1000*1000",
            "(0-9999)*9999*9999*(0-1)=1000*1000", "9999*9999*0=0", "9999*9999-9999*9999=0", "1000*1000-0=1000*1000", "1000*1000+(0-1)=999*1001"};
        for (String test : held) {
            holds(test, true);
        }
        due.says(26, "BAD; NONE: it is not.");
        Scene scene = routes().and("tell pay 1;bar quarter>60;bar people=9;bar grade=5;");
        scene.refused("why 0 60 8", NONE).asks("why 0 61 9", 1).asks("why 0 60 9", 2).asks("why 1 0 1", 3);
        cases(scene, "why", new long[] {NONE, 3, NONE, 1, NONE, 2});
        routes().refused("why 0 0 1", NONE).refused("why 2 0 1", BAD);
    }

    /** Both sides of each of the three: ROUTES 0 and 1, QUARTERS 0 and 95, 1 and 9 people, and what is answered there. */
    private static void cases(Scene scene, String call, long[] want) {
        scene.edges(call + " # 0 1", 0, want[0], 1, want[1], BAD);
        scene.edges(call + " 0 # 1", 0, want[2], 95, want[3], BAD);
        scene.edges(call + " 0 0 #", 1, want[4], 9, want[5], BAD);
        Scenes.empty(due).refused(call + " 0 0 1", BAD);
        Scenes.rich(due).refused(call + " 2 0 1", BAD).refused(call + " 0 96 1", BAD).refused(call + " 0 0 0", BAD);
        Scenes.full(due).refused(call + " 6 0 1", BAD).refused(call + " 5 96 1", BAD).refused(call + " 5 95 10", BAD).refused(call + " -1 96 0", BAD);
    }

    private static void variables() {
        due.terms("VARIABLES: wind, rain, snow, quarter, grade, people, hard, length, day");
        due.terms("Its VARIABLES: WEATHER of the HOUR of the QUARTER, quarter; grade: the greatest HARD of its STEPS; people; "
            + "hard: the sum of HARD of its STEPS; length: the sum of LENGTH; day.");
        Run run = routes().and("lay 0 5 20100", "lay 1 5 99", "lay 2 5 100").start();
        String[] names = {"wind", "rain", "snow", "quarter", "grade", "people", "hard", "length", "day"};
        int[] least = {0, 0, 0, 0, 0, 1, 0, 1, 0};
        int[] most = {0, 0, 0, 95, 5, 9, 30, 54, 999};
        for (int i = 0; i < 9; i++) {
            run.is("tell pay " + names[i] + ";", 1).is("pay 0 0 1", least[i]);
            if (i < 3) {
                int all = i == 0 ? 200 : 99;
                run.is("pay 0 19 1", 0).is("pay 0 20 1", all).is("pay 0 23 1", all).is("pay 0 24 1", 0).is("tear " + i, 1).is("pay 0 95 9", all);
            }
        }
        run.is("day 999", 0);
        for (int i = 3; i < 9; i++) {
            run.is("tell pay " + names[i] + ";", 1).is("pay 1 95 9", most[i]);
        }
    }

    private static void pays(String text, int pay) {
        Run run = routes().start();
        run.does("tell " + text).is("fault", 0).is("pay 0 0 1", pay);
    }

    private static void pay() {
        due.says(27, "PAY.");
        pays("", 0);
        pays("ask 3;bar 1=1;back 1=1;", 0);
        pays("pay 0;", 0);
        pays("pay 1;", 1);
        pays("pay 0-1;", 0);
        pays("pay 0-1000*1000;", 0);
        pays("pay 999*1001;", 999999);
        pays("pay 1000*1000;", 1000000);
        pays("pay 1000*1000+1;", 1000000);
        pays("pay 999*1001;pay 1;", 1000000);
        pays("pay 999*1001;pay 2;", 1000000);
        pays("pay 1000*1000;pay 1000*1000;", 1000000);
        pays(times(12, "pay 9999*9999;"), 1000000);
        pays("pay 5;pay 0-5;", 0);
        pays("pay 5;pay 0-6;", 0);
        pays("pay 0-5;pay 6;", 1);
        pays("pay 0-1000*1000;pay 1000*1000;pay 3;", 3);
        pays("bar 1=1;pay 5;", 5);
        pays(times(12, "pay 7;"), 84);
        due.says(27, "BAD.");
        Scene scene = routes().and("tell pay quarter*10;pay people;pay grade*100;");
        scene.asks("pay 1 95 9", 1459);
        cases(scene, "pay", new long[] {1, 501, 1, 951, 1, 9});
        routes().asks("pay 0 0 1", 0).refused("pay 2 0 1", BAD);
    }

    private static void asked() {
        due.says(28, "GUIDES ASKED.");
        String[] texts = {"", "pay 5;bar 1=1;", "ask 0;", "ask 0-1;", "ask 1;", "ask 2;", "ask 7;", "ask 8;", "ask 9;", "ask 1000*1000;",
            "ask 0-1000*1000;", "ask 3;ask 5;ask 4;", "ask 5;ask 3;", "ask 0-9;ask 2;", "ask 9;ask 2;", "ask 0;ask 0;"};
        int[] many = {1, 1, 1, 1, 1, 2, 7, 8, 8, 8, 1, 5, 5, 2, 8, 1};
        for (int i = 0; i < texts.length; i++) {
            routes().start().does("tell " + texts[i]).is("fault", 0).is("asked 0 0 1", many[i]);
        }
        due.says(28, "BAD.");
        Scene scene = routes().and("tell ask people-1;ask grade;ask quarter-88;");
        scene.asks("asked 0 0 4", 3).asks("asked 0 90 1", 2);
        cases(scene, "asked", new long[] {1, 5, 1, 7, 1, 8});
        routes().asks("asked 0 0 9", 1).refused("asked 2 0 1", BAD);
    }

    public static void main(String[] arguments) {
        tape();
        told();
        noToken();
        outOfPlace();
        tooMany();
        tokens();
        why();
        variables();
        pay();
        asked();
        due.close();
    }
}
