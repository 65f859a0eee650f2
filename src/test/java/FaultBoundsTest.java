/** The boundary cases of a VALLEY's letters and of both kinds of FAULT, sentence by sentence. */
public final class FaultBoundsTest {
    private static final Check CHECK = new Check("FaultBoundsTest");
    private static final String[] FORMS = {"rK99;", "p999;", "s9;", "w9;", "g999;", "b9;", "n99;"};

    public static void main(String[] args) {
        letters96AtMost();
        atLeastOneStatement();
        firstLetterThatCanNotGoOn();
        theEndIfSomethingLacks();
        kind1ComesBeforeKind2();
        numbersOutOfRange();
        noSuchRocketSoFar();
        sendingThatCanNotBe();
        boxOfOneInTheBox();
        nightAbove999();
        noRoomForMore();
        theFirstOfSeveralStatements();
        withAFaultNothingComes();
        lettersAreNoMore();
        nothingIsCounted();
        CHECK.end();
    }

    private static void answers(String text, int due) {
        CHECK.due("valley of " + text, Check.tell(new RocketsAsk(), text), due);
    }

    private static void letters96AtMost() {
        RocketsAsk x = new RocketsAsk();
        String text = "w5;".repeat(31) + "w7;";
        for (int i = 0; i < 96; i++) {
            CHECK.due("letter " + i, x.letter(text.charAt(i)), i + 1);
        }
        CHECK.due("the 97th", x.letter('w'), -6);
        CHECK.due("letters", x.count(7), 96);
        CHECK.due("all 96 are a VALLEY", x.valley(), 32);
        CHECK.due("the last of them came", x.wind(5), 7);
        CHECK.due("there is room again", x.letter('w'), 1);
        answers("w5;".repeat(30) + "g001;w", -1096);
        answers("n01;".repeat(24), 24);
    }

    private static void atLeastOneStatement() {
        answers("", -1000);
        answers(";", -1000);
        answers("w5;", 1);
        RocketsAsk x = CHECK.told("w5;");
        CHECK.due("no letters any more", x.valley(), -1000);
    }

    private static boolean fits(char form, int letter) {
        if (form == '9') {
            return letter >= '0' && letter <= '9';
        }
        return form == 'K' ? letter < 128 && "rsgdql".indexOf(letter) >= 0 : letter == form;
    }

    private static boolean begins(int letter) {
        return letter == 'r' || letter == 'p' || letter == 's' || letter == 'w' || letter == 'g' || letter == 'b'
            || letter == 'n';
    }

    /** Every letter at every place of every STATEMENT. */
    private static void firstLetterThatCanNotGoOn() {
        for (int letter = 0; letter <= 255; letter++) {
            answers((char) letter + "", begins(letter) ? -1001 : -1000);
            answers("w5;" + (char) letter, begins(letter) ? -1004 : -1003);
        }
        for (String form : FORMS) {
            for (int place = 1; place < form.length(); place++) {
                String ahead = form.substring(0, place).replace("K", "q").replace("9", "1");
                boolean last = place == form.length() - 1;
                for (int letter = 0; letter <= 255; letter++) {
                    boolean fits = fits(form.charAt(place), letter);
                    if (!fits || !last) {
                        answers(ahead + (char) letter, -1000 - place - (fits ? 1 : 0));
                        answers("w5;" + ahead + (char) letter, -1003 - place - (fits ? 1 : 0));
                    }
                }
            }
        }
        answers("xx", -1000);
        answers("w5;w5x;x", -1005);
    }

    private static void theEndIfSomethingLacks() {
        for (String form : FORMS) {
            String text = form.replace("K", "l").replace("9", "1");
            for (int end = 1; end < text.length(); end++) {
                answers(text.substring(0, end), -1000 - end);
                answers("w5;n01;" + text.substring(0, end), -1007 - end);
            }
        }
    }

    private static void kind1ComesBeforeKind2() {
        answers("s0;x", -1003);
        answers("rr06;p200;w", -1011);
        answers("n00;n61", -1007);
        answers("p000;".repeat(6) + "p", -1031);
        answers("rr06;", -2000);
    }

    private static void numbersOutOfRange() {
        for (int v = 0; v <= 99; v++) {
            answers(String.format("n%02d;", v), v >= 1 && v <= 60 ? 1 : -2000);
            answers(String.format("w5;p%02d5;", v), v <= 19 ? 2 : -2003);
        }
        for (int v = 0; v <= 9; v++) {
            answers("rg0" + v + ";", v <= 5 ? 1 : -2000);
            answers("rg" + v + "0;", 1);
            answers("w" + v + ";", 1);
            answers("p10" + v + ";", 1);
        }
        answers("g000;", 1);
        answers("g999;", 1);
    }

    private static void noSuchRocketSoFar() {
        for (int rocket = 0; rocket <= 9; rocket++) {
            answers("rs00;rs00;s" + rocket + ";", rocket < 2 ? 3 : -2010);
            answers("rs00;rs00;s0;s1;b" + rocket + ";", rocket < 2 ? 5 : -2016);
            answers("rs00;".repeat(9) + "s" + rocket + ";", rocket < 9 ? 10 : -2045);
        }
        answers("s0;rs00;", -2000);
        answers("rs00;s1;rs00;", -2005);
        answers("b0;rs00;s0;", -2000);
        RocketsAsk x = CHECK.told("rs00;");
        CHECK.due("one that came before", Check.tell(x, "s0;"), 1);
        CHECK.due("one that came before", Check.tell(x, "b0;"), 1);
        CHECK.due("one that is not yet", Check.tell(x, "s1;rs00;"), -2000);
    }

    private static void sendingThatCanNotBe() {
        answers("rs00;g000;s0;", -2010);
        answers("rs00;g001;s0;", 3);
        answers("rr00;g005;s0;", 3);
        answers("rr00;rr00;g009;s0;s1;", -2018);
        answers("rr00;rr00;g010;s0;s1;", 5);
        answers("rl00;g020;s0;", -2010);
        answers("rl00;g021;s0;", 3);
        answers("rs00;s0;s0;", -2008);
        answers("rs00;n01;s0;", -2009);
        answers("rs00;rs00;n01;s1;", 4);
    }

    private static void boxOfOneInTheBox() {
        answers("rs00;b0;", -2005);
        answers("rs00;s0;b0;", 3);
        answers("rs00;s0;b0;b0;", -2011);
        answers("rs00;n01;b0;", 3);
        answers("rs00;g000;n01;b0;", -2014);
    }

    private static void nightAbove999() {
        answers("n60;".repeat(16) + "n39;", 17);
        answers("n60;".repeat(16) + "n40;", -2064);
        answers("n60;".repeat(17), -2064);
        answers("n60;".repeat(16) + "n39;n01;", -2068);
        RocketsAsk x = CHECK.told("n60;".repeat(16) + "n38;");
        CHECK.due("two more", Check.tell(x, "w5;n02;"), -2003);
        CHECK.due("one more", Check.tell(x, "w5;n01;"), 2);
        CHECK.due("NIGHT", x.count(2), 999);
    }

    private static void noRoomForMore() {
        answers("rs00;".repeat(9) + "p000;".repeat(5), 14);
        answers("rs00;".repeat(10), -2045);
        answers("p000;".repeat(6), -2025);
        answers("p000;".repeat(5) + "rs00;".repeat(9) + "p000;", -2070);
        answers("p000;".repeat(5) + "rs00;".repeat(9) + "rs00;", -2070);
        RocketsAsk x = CHECK.told("rs00;".repeat(9), "p000;".repeat(5));
        CHECK.due("no room for a ROCKET", Check.tell(x, "w6;rs00;"), -2003);
        CHECK.due("no room for a READER", Check.tell(x, "w6;p000;"), -2003);
        CHECK.due("WIND is as it was", x.wind(5), 5);
    }

    private static void theFirstOfSeveralStatements() {
        answers("w5;s0;b0;n00;", -2003);
        answers("w5;w6;b0;n00;", -2006);
        answers("w5;w6;w7;n00;rr09;", -2009);
        answers("rr00;p200;rr06;", -2005);
    }

    private static void withAFaultNothingComes() {
        String before = "p103;p129;rr21;rs00;rg52;w7;g050;s0;n01;";
        String[] faults = {"", "x", "b0;b1;p119;w1;g999;s1;n05;rs33;b5;", "rs11;p001;w0;g001;n60;n60", "b0;n00;"};
        for (String fault : faults) {
            RocketsAsk x = CHECK.told(before);
            CHECK.due("a FAULT", Check.tell(x, fault) <= -1000 ? 1 : 0, 1);
            CHECK.same("behind " + fault, Check.lookThrough(x), Check.lookThrough(CHECK.told(before)));
        }
    }

    private static void lettersAreNoMore() {
        for (String text : new String[] {"", "w5;", "x", "w", "s0;"}) {
            RocketsAsk x = new RocketsAsk();
            Check.tell(x, text);
            CHECK.due("letters behind " + text, x.count(7), 0);
            CHECK.due("a VALLEY behind " + text, Check.tell(x, "w4;w3;"), 2);
        }
    }

    private static void nothingIsCounted() {
        RocketsAsk x = new RocketsAsk();
        for (String text : new String[] {"", "x", "w", "s0;", "p200;", "n61;", "rr06;"}) {
            CHECK.due("a FAULT", Check.tell(x, text) <= -1000 ? 1 : 0, 1);
        }
        CHECK.same("refusals", Check.refusals(x), "0 0 0 0 0 0 ");
    }
}
