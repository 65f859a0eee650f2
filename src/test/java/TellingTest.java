/** Promises 1 to 3: a new object, letters, and the valley that they tell. */
public final class TellingTest {
    private static final Check CHECK = new Check("TellingTest");

    public static void main(String[] args) {
        newObject();
        letters();
        wrongLetters();
        wrongStatements();
        goodStatements();
        noRoom();
        lateNights();
        nothingComesWithAFault();
        statementsComeInOrder();
        CHECK.end();
    }

    private static void newObject() {
        RocketsAsk x = new RocketsAsk();
        CHECK.same("new", Check.look(x), "0 0 0 100 0 0 0 0 ");
        CHECK.same("new", Check.refusals(x), "0 0 0 0 0 0 ");
        CHECK.due("wind(5)", x.wind(5), 5);
        CHECK.due("on()", x.on(), -3);
    }

    private static void letters() {
        RocketsAsk x = new RocketsAsk();
        CHECK.due("letter(0)", x.letter(0), 1);
        CHECK.due("letter(255)", x.letter(255), 2);
        CHECK.due("letter(-1)", x.letter(-1), -4);
        CHECK.due("letter(256)", x.letter(256), -6);
        CHECK.due("letter(min)", x.letter(Integer.MIN_VALUE), -4);
        CHECK.due("letter(max)", x.letter(Integer.MAX_VALUE), -6);
        CHECK.due("count(7)", x.count(7), 2);
        for (int i = 3; i <= 96; i++) {
            CHECK.due("letter(59)", x.letter(59), i);
        }
        CHECK.due("letter(59)", x.letter(59), -6);
        CHECK.due("letter(-1)", x.letter(-1), -4);
        CHECK.due("count(7)", x.count(7), 96);
        CHECK.same("refusals", Check.refusals(x), "0 0 0 3 0 3 ");
        CHECK.due("valley()", x.valley(), -1000);
        CHECK.due("count(7)", x.count(7), 0);
        CHECK.due("letter(59)", x.letter(59), 1);
    }

    private static void answers(String text, int want) {
        RocketsAsk x = new RocketsAsk();
        CHECK.due("valley of " + text, Check.tell(x, text), want);
        CHECK.due("letters behind " + text, x.count(7), 0);
        if (want < 0) {
            CHECK.same("behind " + text, Check.look(x), Check.look(new RocketsAsk()));
            CHECK.same("refusals behind " + text, Check.refusals(x), "0 0 0 0 0 0 ");
        }
    }

    private static void wrongLetters() {
        answers("", -1000);
        for (String text : new String[] {"x", ";", "R", "0", "q", "\u00e9", " r"}) {
            answers(text, -1000);
        }
        String[] whole = {"rr00;", "p000;", "s0;", "w0;", "g000;", "b0;", "n01;"};
        for (String text : whole) {
            for (int end = 1; end < text.length(); end++) {
                answers(text.substring(0, end), -1000 - end);
                answers(text.substring(0, end) + "x", -1000 - end);
                answers("w5;" + text.substring(0, end) + "!;", -1003 - end);
            }
            for (int end = 1; end < text.length() - 1; end++) {
                answers(text.substring(0, end) + ";", -1000 - end);
                answers(text.substring(0, end) + ":", -1000 - end);
                answers(text.substring(0, end) + "/", -1000 - end);
            }
            answers(text.substring(0, text.length() - 1) + "0;", -1000 - text.length() + 1);
        }
        for (String kind : new String[] {"R", "p", "w", "n", "b", "0", "S"}) {
            answers("r" + kind + "00;", -1001);
        }
        answers("pr00;", -1001);
        answers("w5;;", -1003);
        answers("w5; w5;", -1003);
        answers("w5;".repeat(31) + "w5w", -1095);
        answers("w5;".repeat(31) + "w55", -1095);
        answers("w5;".repeat(30) + "p000;s", -1096);
    }

    private static void wrongStatements() {
        for (int word = 6; word <= 9; word++) {
            answers("rr0" + word + ";", -2000);
        }
        answers("p200;", -2000);
        answers("p990;", -2000);
        answers("s0;", -2000);
        answers("rr00;s1;", -2005);
        answers("rr00;s9;", -2005);
        answers("s0;rr00;", -2000);
        answers("rr00;s0;s0;", -2008);
        answers("rr00;g004;s0;", -2010);
        answers("rl00;g020;s0;", -2010);
        answers("b0;", -2000);
        answers("b9;", -2000);
        answers("rr00;b0;", -2005);
        answers("rr00;s0;b0;b0;", -2011);
        answers("rr00;n01;s0;", -2009);
        answers("n00;", -2000);
        answers("n61;", -2000);
        answers("n99;", -2000);
        // a wrong letter far behind counts before a wrong statement
        answers("rr06;x", -1005);
        answers("s0;w", -1004);
        answers("n00;rr06;", -2000);
    }

    private static void goodStatements() {
        answers("rr05;", 1);
        answers("p199;", 1);
        answers("p000;", 1);
        answers("w0;w9;", 2);
        answers("g000;g999;", 2);
        answers("rr00;s0;", 2);
        answers("rr00;g005;s0;", 3);
        answers("rr00;s0;b0;s0;", 4);
        answers("n01;n60;", 2);
        answers("w5;".repeat(32), 32);
        for (int kind = 0; kind < 6; kind++) {
            RocketsAsk x = CHECK.told("r" + "rsgdql".charAt(kind) + "73;");
            CHECK.due("rocket(0, 0)", x.rocket(0, 0), kind);
            CHECK.due("rocket(0, 1)", x.rocket(0, 1), 7);
            CHECK.due("rocket(0, 2)", x.rocket(0, 2), 3);
            CHECK.due("rocket(0, 3)", x.rocket(0, 3), 0);
        }
    }

    private static void noRoom() {
        answers("rr00;".repeat(9), 9);
        answers("rr00;".repeat(10), -2045);
        answers("p000;".repeat(5), 5);
        answers("p000;".repeat(6), -2025);
        RocketsAsk x = CHECK.told("rr00;".repeat(8) + "p000;".repeat(4));
        CHECK.due("two rockets more", Check.tell(x, "w4;rr00;rr00;"), -2008);
        CHECK.due("two readers more", Check.tell(x, "p000;p000;"), -2005);
        CHECK.due("one more of each", Check.tell(x, "rr00;p000;"), 2);
        CHECK.due("count(0)", x.count(0), 9);
        CHECK.due("count(1)", x.count(1), 5);
        CHECK.due("a rocket more", Check.tell(x, "rr00;"), -2000);
        CHECK.due("a reader more", Check.tell(x, "p000;"), -2000);
    }

    private static void lateNights() {
        answers("n60;".repeat(16) + "n40;", -2064);
        RocketsAsk x = CHECK.told("n60;".repeat(16) + "n39;");
        CHECK.due("count(2)", x.count(2), 999);
        CHECK.due("a night more", Check.tell(x, "n01;"), -2000);
        CHECK.due("none more", Check.tell(x, "w1;"), 1);
    }

    private static void nothingComesWithAFault() {
        RocketsAsk x = CHECK.told("p103;rr21;rs00;w7;g050;s0;n01;");
        String before = Check.look(x);
        CHECK.due("a fault last", Check.tell(x, "rg33;p119;w1;g999;b0;s0;n05;b5;"), -2028);
        CHECK.same("behind the fault", Check.look(x), before);
        CHECK.due("a letter lacks", Check.tell(x, "rg33;p119;w1;g999;b0;s0;n05"), -1027);
        CHECK.same("behind the lack", Check.look(x), before);
        CHECK.due("without the fault", Check.tell(x, "rg33;p119;w1;g999;b0;s0;n05;"), 7);
        CHECK.due("count(0)", x.count(0), 3);
        CHECK.due("count(1)", x.count(1), 2);
        CHECK.due("count(2)", x.count(2), 6);
        CHECK.due("count(3)", x.count(3), 999 - 5 - 10);
        CHECK.due("count(4)", x.count(4), 7);
        CHECK.due("wind(5)", x.wind(5), 1);
        CHECK.same("refusals", Check.refusals(x), "0 0 0 0 0 0 ");
    }

    private static void statementsComeInOrder() {
        RocketsAsk early = CHECK.told("rr50;s0;p109;");
        CHECK.due("read before he came", early.keeps(0, 0), 0);
        RocketsAsk late = CHECK.told("p109;rr50;s0;");
        CHECK.due("read after he came", late.keeps(0, 0), 99);
        RocketsAsk windy = CHECK.told("p152;rr20;rr21;w5;s0;w9;s1;");
        CHECK.due("too far", windy.keeps(0, 0), 0);
        CHECK.due("by the wind", windy.keeps(0, 1), 2);
        CHECK.due("count(3)", windy.count(3), 90);
        RocketsAsk slept = CHECK.told("p102;rr00;rr01;s0;n01;");
        CHECK.due("one night less", slept.keeps(0, 0), 1);
        CHECK.due("read in the night", slept.keeps(0, 1), 2);
        CHECK.due("count(2)", slept.count(2), 1);
        CHECK.due("count(3)", slept.count(3), 90);
    }
}
