/** Promises 22 to 28: the tape, the statute told by it, what it refuses, pays and asks for. */
public final class StatuteTest {
    private static final Due due = new Due();

    /** Route 0: hard 3 and 1, length 5 and 2; wind 31, rain 4, snow 12 in hour 2, else 0. */
    private static ValleyGuides withRoute() {
        ValleyGuides g = new ValleyGuides();
        g.place(1);
        g.place(1);
        g.step(0, 1, 2, 5, 3, false);
        g.step(1, 0, 0, 2, 1, false);
        g.route(0);
        g.on(0, 1);
        for (int k = 0; k < 3; k++) {
            g.sheet(k, k, 24);
        }
        g.lay(0, 2, 3199);
        g.lay(1, 2, 4);
        g.lay(2, 2, 12);
        return g;
    }

    private static String times(String text, int n) {
        StringBuilder all = new StringBuilder();
        for (int i = 0; i < n; i++) {
            all.append(text);
        }
        return all.toString();
    }

    private static void tape() {
        due.promise("promise 22");
        ValleyGuides g = new ValleyGuides();
        for (int i = 1; i <= 30; i++) {
            due.is("feed " + i, g.feed(Texts.eight("        ", 0)), 8L * i);
        }
        due.is("feed 31", g.feed(0), -3);
        due.is("240 stay", g.count(12), 240);
        due.promise("promise 23");
        due.is("end(-1)", g.end(-1), -1);
        due.is("end(241)", g.end(241), -1);
        due.is("end(233)", g.end(233), 240);
        due.promise("promise 22");
        due.is("feed behind 233", g.feed(0), -3);
        due.promise("promise 23");
        due.is("end(234), more than there are", g.end(234), -1);
        due.is("end(233)", g.end(233), 233);
        due.is("end(232)", g.end(232), 233);
        due.promise("promise 22");
        due.is("feed behind 232", g.feed(0), 240);
        due.promise("promise 23");
        due.is("end(0)", g.end(0), 240);
        due.is("end(0) of none", g.end(0), 0);
        due.is("end(1) of none", g.end(1), -1);
        due.promise("promise 22");
        g = withRoute();
        g.feed(0x7061792033373b20L);
        due.is("the highest byte first", g.text(), 1);
        due.is("pay 37;", g.pay(0, 0, 1), 37);
        g.feed(0x706179203720e920L);
        due.is("a byte above 127 is no token", g.text(), -16);
        due.is("fault 1", g.fault(), 1);
    }

    private static void fault(String text, int place, int fault) {
        ValleyGuides g = withRoute();
        Texts.tell(g, "pay 41;bar day=2;");
        due.promise("promise 24");
        due.is("'" + text + "'", Texts.tell(g, text), -10 - place);
        due.is("what was told stays after '" + text + "'", g.pay(0, 0, 1), 41);
        due.is("its lines stay after '" + text + "'", g.count(4), 2);
        due.is("the tape is empty after '" + text + "'", g.count(12), 0);
        due.promise("promise 25");
        due.is("fault of '" + text + "'", g.fault(), fault);
        due.is("an empty text", g.text(), 0);
        due.is("fault of an empty text", g.fault(), 0);
    }

    private static void faults() {
        String[] noTokens = {"pa 1;", "pays 1;", "PAY 1;", "pay1.5;", "pay 1;.", "bar wind & 1", "barwind>3;", "pay 1;winds",
            "pay 12345;", "pay 3+00001;", "pay peopl;", "pay quarters;", "pay 1 ?", "pay\t1;", "pay 1\u00e9;", "pay 1;\0"};
        int[] places = {0, 0, 0, 4, 6, 9, 0, 6, 4, 6, 4, 4, 6, 3, 5, 6};
        for (int i = 0; i < noTokens.length; i++) {
            fault(noTokens[i], places[i], 1);
        }
        fault("pay ;", 4, 2);
        fault("pay", 3, 2);
        fault("pay 1", 5, 2);
        fault("pay 1  ", 7, 2);
        fault("  wind", 2, 2);
        fault("1", 0, 2);
        fault(";", 0, 2);
        fault("pay 1;;", 6, 2);
        fault("pay 1 2;", 6, 2);
        fault("pay wind rain;", 9, 2);
        fault("pay 1<2;", 5, 2);
        fault("ask not 1;", 4, 2);
        fault("pay pay;", 4, 2);
        fault("pay -1;", 4, 2);
        fault("pay 1+;", 6, 2);
        fault("pay 1+*2;", 6, 2);
        fault("pay (1;", 6, 2);
        fault("pay ();", 5, 2);
        fault("pay 1);", 5, 2);
        fault("pay (1));", 7, 2);
        fault("pay (1", 6, 2);
        fault("pay 2(1);", 5, 2);
        fault("bar 1;", 5, 2);
        fault("bar 1", 5, 2);
        fault("bar 1<2<3;", 7, 2);
        fault("bar 1<2 and;", 11, 2);
        fault("bar 1<2 or 3;", 12, 2);
        fault("bar 1 and 2<3;", 6, 2);
        fault("bar (1<2);", 6, 2);
        fault("bar (not 1<2);", 5, 2);
        fault("bar 1<not 2;", 6, 2);
        fault("bar 1<2 not 1<2;", 8, 2);
        fault("bar 1+not 2<3;", 6, 2);
        fault("bar not;", 7, 2);
        fault("bar (1 and 2)<3;", 7, 2);
        fault("pay 1 and 2;", 6, 2);
        fault("bar 1<2 bar 2<3;", 8, 2);
        fault("back 1;", 6, 2);
        fault("or", 0, 2);
        fault("pay ((((((1+2))))))+(((((((1;", 26, 3);
        fault("pay (((((((((", 10, 3);
        fault("bar 1<(((((((1)))))));", 12, 3);
        fault("pay 1((((((((", 5, 2);
        fault("pay (((((( (", 11, 3);
        fault(times("pay 1;", 12) + "pay 1;", 72, 4);
        fault(times("pay 1;", 12) + " ask", 73, 4);
        fault(times("pay 1;", 12) + "bar", 72, 4);
        fault(times("pay 1;", 12) + "back", 72, 4);
        fault(times("pay 1;", 12) + "wind", 72, 2);
        fault(times("pay 1;", 12) + ";", 72, 2);
        fault(times("pay 1;", 12) + "?", 72, 1);
        fault("pay 1 ; " + times("(", 9), 8, 2);
        fault("pay 1 12345;", 6, 1);
    }

    private static void texts() {
        due.promise("promise 24");
        ValleyGuides g = withRoute();
        due.is("an empty tape", g.text(), 0);
        due.is("blanks", Texts.tell(g, "   "), 0);
        due.is("twelve lines", Texts.tell(g, times("pay 1;", 12)), 12);
        due.is("count(4)", g.count(4), 12);
        due.is("and blanks", Texts.tell(g, times("pay 1;", 12) + "  "), 12);
        due.is("they pay", g.pay(0, 0, 1), 12);
        due.is("no blanks where none are needed", Texts.tell(g, "pay(2)*3;ask 2;bar not 1<2;back1=2;"), 4);
        due.is("many blanks", Texts.tell(g, "   pay    (  2 )  *  3 ;  "), 1);
        due.is("six open at once, twice", Texts.tell(g, "pay ((((((2))))))+((((((3))))));"), 1);
        due.is("all 240 bytes", Texts.tell(g, "pay " + times("9*", 117) + "1;"), 1);
        due.is("held", g.pay(0, 0, 1), 1000000);
        due.is("not upon not", Texts.tell(g, "bar " + times("not ", 57) + "1<2;"), 1);
        due.is("57 times", g.why(0, 0, 1), -4);
        due.is("cut off within parts", Texts.tell(g, "pay 7-(6-(5-"), -22);
        due.is("the next begins anew", Texts.tell(g, "pay 9-2;"), 1);
        due.is("it pays", g.pay(0, 0, 1), 7);
        due.is("cut off within a test", Texts.tell(g, "bar not 1<2 or not 3"), -30);
        due.is("the next begins anew", Texts.tell(g, "pay ((((((8))))));"), 1);
        due.is("it pays", g.pay(0, 0, 1), 8);
        due.is("a text of nothing takes all away", Texts.tell(g, ""), 0);
        due.is("no pay", g.pay(0, 0, 1), 0);
        g.feed(Texts.eight("pay 5;  ", 0));
        due.is("on the tape", g.count(12), 8);
        due.is("told", g.text(), 1);
        due.is("the tape is empty", g.count(12), 0);
        due.promise("promise 25");
        due.is("no fault", g.fault(), 0);
        due.is("no fault at first", new ValleyGuides().fault(), 0);
    }

    private static void bar(String test, boolean holds) {
        ValleyGuides g = withRoute();
        due.is("'" + test + "'", Texts.tell(g, "bar " + test + ";"), 1);
        due.is("'" + test + "' holds", g.why(0, 8, 2), holds ? 0 : -4);
    }

    private static void whys() {
        due.promise("promise 26");
        bar("1<2", true);
        bar("2<2", false);
        bar("3<2", false);
        bar("2>1", true);
        bar("2>2", false);
        bar("2=2", true);
        bar("2=1", false);
        bar("not 1<2", false);
        bar("not not 1<2", true);
        bar("not 1<2 or 1<2", true);
        bar("not 1<2 and 2<1", false);
        bar("1<2 or 1<2 and 2<1", true);
        bar("2<1 and 1<2 or 1<2", true);
        bar("2<1 or 2<1", false);
        bar("1<2 and 1<2", true);
        bar("1<2 and 2<1", false);
        bar("0-5<0", true);
        bar("0<2-3", false);
        bar("1>2-3", true);
        bar("1=3-2", true);
        bar("1+0<2", true);
        bar("not 2>1", false);
        bar("not 2=2", false);
        bar("not 2=1", true);
        bar("not 0<1 or not 0>1 and not 1=0", true);
        bar("2+3*4=14", true);
        bar("(2+3)*4=20", true);
        bar("9-4-3=2", true);
        bar("9-(4-3)=8", true);
        bar("wind=31", true);
        bar("rain=4", true);
        bar("snow=12", true);
        bar("quarter=8", true);
        bar("grade=3", true);
        bar("people=2", true);
        bar("hard=4", true);
        bar("length=7", true);
        bar("day=0", true);
        bar("0042=42", true);
        ValleyGuides g = withRoute();
        due.is("nothing told", g.why(0, 0, 1), -4);
        Texts.tell(g, "pay 1;bar people>3;ask 1;back 1<2;bar wind>30 or people>3;bar day>4;");
        due.is("the first that holds", g.why(0, 8, 4), 1);
        due.is("another", g.why(0, 8, 3), 4);
        due.is("in another hour", g.why(0, 12, 3), -4);
        due.is("the last quarter of the hour", g.why(0, 11, 3), 4);
        due.is("the quarter ahead of it", g.why(0, 7, 3), -4);
        g.day(5);
        due.is("on another day", g.why(0, 12, 3), 5);
        g.tear(0);
        due.is("wind that is unknown", g.why(0, 12, 3), 4);
        due.is("why(-1, 0, 1)", g.why(-1, 0, 1), -1);
        due.is("why(1, 0, 1)", g.why(1, 0, 1), -1);
        due.is("why(0, -1, 1)", g.why(0, -1, 1), -1);
        due.is("why(0, 96, 1)", g.why(0, 96, 1), -1);
        due.is("why(0, 0, 0)", g.why(0, 0, 0), -1);
        due.is("why(0, 0, 10)", g.why(0, 0, 10), -1);
    }

    private static void pays(String text, int pay) {
        ValleyGuides g = withRoute();
        due.holds("'" + text + "' is told", Texts.tell(g, text) > 0);
        due.is("pay by '" + text + "'", g.pay(0, 8, 2), pay);
    }

    private static void payAndAsked() {
        due.promise("promise 27");
        pays("pay 7;", 7);
        pays("pay 7;pay 8;ask 3;", 15);
        pays("pay 7;pay 0-9;", 0);
        pays("pay 0-9;pay 17;", 8);
        pays("pay 9999*9999;", 1000000);
        pays("pay 9999*9999;pay 1;", 1000000);
        pays("pay 9999*9999;pay 0-1;", 999999);
        pays("pay 9999*9999;pay 9999*9999;pay 0-1;", 1000000);
        pays("pay 9999*9999-1;", 999999);
        pays("pay 0-9999*9999+1000*1000+8;", 8);
        pays("pay 9999*9999+1-1;", 999999);
        pays("pay 0-9999*9999-5+1000*1000+3;", 3);
        pays("pay (0-9999)*9999*(0-1);", 1000000);
        pays("pay 9999*9999*9999*9999;", 1000000);
        pays("pay 10*length+grade*hard;", 82);
        pays("pay wind+rain*10+snow*100+quarter*1000;", 9271);
        pays("bar 1<2;pay 5;", 5);
        ValleyGuides g = withRoute();
        due.is("nothing told", g.pay(0, 0, 1), 0);
        due.is("pay(-1, 0, 1)", g.pay(-1, 0, 1), -1);
        due.is("pay(1, 0, 1)", g.pay(1, 0, 1), -1);
        due.is("pay(0, -1, 1)", g.pay(0, -1, 1), -1);
        due.is("pay(0, 96, 1)", g.pay(0, 96, 1), -1);
        due.is("pay(0, 0, 0)", g.pay(0, 0, 0), -1);
        due.is("pay(0, 0, 10)", g.pay(0, 0, 10), -1);

        due.promise("promise 28");
        due.is("nothing told", g.asked(0, 0, 9), 1);
        Texts.tell(g, "ask people-1;ask 2*people-9;pay 7;bar 1<2;");
        int[] asked = {1, 1, 2, 3, 4, 5, 6, 7, 8};
        for (int people = 1; people <= 9; people++) {
            due.is("asked for " + people, g.asked(0, 0, people), asked[people - 1]);
        }
        Texts.tell(g, "ask 2;ask 5;ask 3;");
        due.is("the greatest", g.asked(0, 0, 1), 5);
        Texts.tell(g, "ask 0-5;");
        due.is("at least one", g.asked(0, 0, 1), 1);
        Texts.tell(g, "ask 9;");
        due.is("at most eight", g.asked(0, 0, 1), 8);
        due.is("asked(-1, 0, 1)", g.asked(-1, 0, 1), -1);
        due.is("asked(1, 0, 1)", g.asked(1, 0, 1), -1);
        due.is("asked(0, -1, 1)", g.asked(0, -1, 1), -1);
        due.is("asked(0, 96, 1)", g.asked(0, 96, 1), -1);
        due.is("asked(0, 0, 0)", g.asked(0, 0, 0), -1);
        due.is("asked(0, 0, 10)", g.asked(0, 0, 10), -1);
    }

    public static void main(String[] arguments) {
        tape();
        faults();
        texts();
        whys();
        payAndAsked();
        due.close();
    }
}
