/** The boundary cases of the document's part I: for each sentence that names one a test of its own. */
public final class TermsBoundsTest {
    private static final Check CHECK = new Check("TermsBoundsTest");
    private static final String KINDS = "rsgdql";
    private static final int[] COSTS = {5, 1, 10, 11, 3, 21};
    private static final String SIX_SPARKS = "rs00;rs01;rs02;rs03;rs04;rs05;";
    private static final String UNTIL_960 = "n60;".repeat(16);

    public static void main(String[] args) {
        aNewObject();
        places0To19();
        words0To5();
        allWordsAreTheQuestion();
        rocketsNineAtMost();
        figures0To9();
        readersFiveAtMost();
        minds0To9();
        grant0To999();
        wind0To9();
        night0To999();
        aRocketMoreIsLastInTheBox();
        figuresByTwoAreCut();
        halfOfARocketsIsCut();
        darkOfEachKind();
        burstsAreHeldTo0To19();
        boxesFromNoneToAll();
        sendingNeedsWhatItCosts();
        noFartherThanItIsRead();
        wordsForMindsNights();
        onlyIfThatIsMore();
        oneNightLess();
        forgettingComesBeforeSending();
        theLeastRocketForWhichGrantIsEnough();
        noRocketAndNothing();
        CHECK.end();
    }

    private static void aNewObject() {
        RocketsAsk x = new RocketsAsk();
        CHECK.due("ROCKETS at first", x.count(0), 0);
        CHECK.due("READERS at first", x.count(1), 0);
        CHECK.due("NIGHT at first", x.count(2), 0);
        CHECK.due("GRANT at first", x.grant(0), 100);
        CHECK.due("WIND at first", x.wind(0), 5);
        CHECK.due("SENT at first", x.count(4), 0);
        CHECK.due("in the ROW at first", x.count(6), 0);
        CHECK.due("letters at first", x.count(7), 0);
        CHECK.due("no IMAGE at first", x.on(), -3);
    }

    private static void places0To19() {
        for (int place = 0; place <= 99; place++) {
            RocketsAsk x = new RocketsAsk();
            String text = String.format("p%02d0;", place);
            CHECK.due("valley of " + text, Check.tell(x, text), place <= 19 ? 1 : -2000);
            CHECK.due("the reader of " + text, x.reader(0, 0), place <= 19 ? place : -1);
        }
        RocketsAsk x = CHECK.told("p070;");
        CHECK.due("the least PLACE", x.stands(0, 0), 7);
        CHECK.due("the greatest PLACE", x.stands(0, 19), 0);
        CHECK.due("below the least PLACE", x.stands(0, -1), -1);
        CHECK.due("above the greatest PLACE", x.stands(0, 20), -1);
        CHECK.due("he is where he was", x.reader(0, 0), 19);
    }

    private static void words0To5() {
        for (int word = 0; word <= 9; word++) {
            RocketsAsk x = new RocketsAsk();
            CHECK.due("a rocket of word " + word, Check.tell(x, "rs0" + word + ";"), word <= 5 ? 1 : -2000);
            CHECK.due("its word", x.rocket(0, 2), word <= 5 ? word : -1);
        }
        RocketsAsk x = CHECK.told("p109;rs00;rs05;s0;s1;");
        CHECK.due("the least WORD", x.keeps(0, 0), 99);
        CHECK.due("the greatest WORD", x.keeps(0, 5), 99);
        CHECK.due("below the least WORD", x.keeps(0, -1), -1);
        CHECK.due("above the greatest WORD", x.keeps(0, 6), -1);
        CHECK.due("the bits of both", x.reader(0, 2), 33);
    }

    private static void allWordsAreTheQuestion() {
        for (int lacking = 0; lacking <= 5; lacking++) {
            RocketsAsk x = CHECK.told("p109;" + SIX_SPARKS + "s0;s1;s2;s3;s4;s5;".replace("s" + lacking + ";", ""));
            CHECK.due("without word " + lacking, x.whole(0), 1);
            x.sends(lacking);
            CHECK.due("with word " + lacking, x.whole(0), 0);
            CHECK.due("all bits", x.reader(0, 2), 63);
        }
    }

    private static void rocketsNineAtMost() {
        RocketsAsk x = CHECK.told("rs00;".repeat(8));
        CHECK.due("ROCKET 8 is not yet", x.rocket(8, 0), -1);
        CHECK.due("the ninth", Check.tell(x, "rl95;"), 1);
        CHECK.due("ROCKET 8", x.rocket(8, 0), 5);
        CHECK.due("the tenth", Check.tell(x, "rs00;"), -2000);
        CHECK.due("ROCKETS", x.count(0), 9);
        CHECK.due("ROCKET 9 is not", x.rocket(9, 0), -1);
        CHECK.due("all nine are SENT", Check.tell(x, "g999;s0;s1;s2;s3;s4;s5;s6;s7;s8;"), 10);
        CHECK.due("their bits", x.count(4), 511);
    }

    private static void figures0To9() {
        for (int figure = 0; figure <= 9; figure++) {
            RocketsAsk x = CHECK.told("rr" + figure + "0;");
            CHECK.due("figure told", x.rocket(0, 1), figure);
            CHECK.due("figure turned", x.turn(0, 1, 9 - figure), figure);
            CHECK.due("figure then", x.rocket(0, 1), 9 - figure);
        }
    }

    private static void readersFiveAtMost() {
        RocketsAsk x = CHECK.told("p109;".repeat(4));
        CHECK.due("READER 4 is not yet", x.reader(4, 0), -1);
        CHECK.due("the fifth", Check.tell(x, "p198;"), 1);
        CHECK.due("READER 4", x.reader(4, 0), 19);
        CHECK.due("the sixth", Check.tell(x, "p109;"), -2000);
        CHECK.due("READERS", x.count(1), 5);
        CHECK.due("READER 5 is not", x.reader(5, 0), -1);
    }

    private static void minds0To9() {
        for (int minds = 0; minds <= 9; minds++) {
            CHECK.due("minds", CHECK.told("p10" + minds + ";").reader(0, 1), minds);
        }
    }

    private static void grant0To999() {
        RocketsAsk x = CHECK.told("g000;");
        CHECK.due("the least told", x.count(3), 0);
        CHECK.due("the greatest told", Check.tell(x, "g999;"), 1);
        CHECK.due("the least", x.grant(0), 999);
        CHECK.due("the greatest", x.grant(999), 0);
        CHECK.due("below", x.grant(-1), -4);
        CHECK.due("above", x.grant(1000), -6);
        CHECK.due("as it was", x.count(3), 999);
    }

    private static void wind0To9() {
        for (int wind = 0; wind <= 9; wind++) {
            RocketsAsk x = CHECK.told("w" + wind + ";");
            CHECK.due("told", x.wind(9 - wind), wind);
            CHECK.due("becomes", x.wind(5), 9 - wind);
            CHECK.due("below", x.wind(-1), -4);
            CHECK.due("above", x.wind(10), -6);
            CHECK.due("as it was", x.wind(5), 5);
        }
    }

    private static void night0To999() {
        RocketsAsk x = CHECK.told(UNTIL_960);
        CHECK.due("one too many", x.nights(40), -6);
        CHECK.due("NIGHT is as it was", x.count(2), 960);
        CHECK.due("up to the last", x.nights(39), 100);
        CHECK.due("the greatest NIGHT", x.count(2), 999);
        CHECK.due("one more", x.nights(1), -6);
        CHECK.due("NIGHT is as it was", x.count(2), 999);
        x = CHECK.told(UNTIL_960);
        CHECK.due("one too many told", Check.tell(x, "w5;n38;n02;"), -2007);
        CHECK.due("NIGHT is as it was", x.count(2), 960);
        CHECK.due("up to the last told", Check.tell(x, "n38;n01;"), 2);
        CHECK.due("the greatest NIGHT", x.count(2), 999);
        CHECK.due("one more told", Check.tell(x, "n01;"), -2000);
    }

    private static void aRocketMoreIsLastInTheBox() {
        RocketsAsk x = CHECK.told("rs00;s0;rs01;");
        CHECK.due("the first is SENT", x.rocket(0, 3), 1);
        CHECK.due("the second is in THE BOX", x.rocket(1, 3), 0);
        Check.tell(x, "rr72;");
        CHECK.due("it is in THE BOX", x.rocket(2, 3), 0);
        CHECK.due("its word", x.rocket(2, 2), 2);
        CHECK.due("it is not next", x.next(0), 1);
        x.nights(1);
        CHECK.due("it is next", x.next(0), 2);
    }

    private static int reach(String rocket) {
        return CHECK.told(rocket).rocket(0, 5);
    }

    private static void figuresByTwoAreCut() {
        CHECK.due("0 by 2", reach("rr00;"), 2);
        CHECK.due("1 by 2", reach("rr10;"), 2);
        CHECK.due("2 by 2", reach("rr20;"), 3);
        CHECK.due("8 by 2", reach("rr80;"), 6);
        CHECK.due("9 by 2", reach("rr90;"), 6);
        CHECK.due("GOLD, 9 by 2", reach("rg90;"), 9);
        CHECK.due("LONG, 9 by 2", reach("rl90;"), 18);
        CHECK.due("LONG, 0 by 2", reach("rl00;"), 10);
    }

    private static void halfOfARocketsIsCut() {
        int[] due = {1, 1, 1, 1, 2, 2, 2, 2, 3, 3};
        for (int figure = 0; figure <= 9; figure++) {
            CHECK.due("SPARK " + figure, reach("rs" + figure + "0;"), due[figure]);
            CHECK.due("QUIET " + figure, reach("rq" + figure + "0;"), due[figure]);
        }
    }

    private static void darkOfEachKind() {
        int[] least = {1, 0, 2, 2, 9, 2};
        int[] most = {10, 0, 20, 20, 9, 20};
        for (int kind = 0; kind < 6; kind++) {
            String rocket = "r" + KINDS.charAt(kind);
            CHECK.due("DARK of figure 0", CHECK.told(rocket + "00;").rocket(0, 6), least[kind]);
            CHECK.due("DARK of figure 9", CHECK.told(rocket + "90;").rocket(0, 6), most[kind]);
        }
    }

    private static void boxesFromNoneToAll() {
        RocketsAsk x = CHECK.told("rs00;".repeat(9), "s0;s1;s2;s3;s4;s5;s6;s7;s8;");
        for (int rocket = 8; rocket >= 0; rocket--) {
            CHECK.due("how many are in THE BOX", x.boxes(rocket), 9 - rocket);
            CHECK.due("in it already", x.boxes(rocket), -3);
        }
        CHECK.due("nothing is SENT", x.count(4), 0);
        CHECK.due("nothing is paid back", x.count(3), 91);
    }

    private static void burstsAreHeldTo0To19() {
        int[] drifting = {0, 0, 1, 4, 7, 10, 13, 16, 19, 19};
        RocketsAsk x = CHECK.told("rr00;rs00;rg00;rd00;rq00;rl00;p009;p199;");
        for (int wind = 0; wind <= 9; wind++) {
            x.wind(wind);
            for (int kind = 0; kind < 6; kind++) {
                int due = kind == 3 || kind == 5 ? drifting[wind] : 5 + wind;
                CHECK.due(KINDS.charAt(kind) + " by wind " + wind, x.rocket(kind, 7), due);
            }
        }
        // held at the ends it is read five STEPS from there
        x.wind(0);
        x.stands(0, 5);
        CHECK.due("five from 0", x.rocket(3, 8), 1);
        x.stands(0, 6);
        CHECK.due("six from 0", x.rocket(3, 8), 0);
        x.wind(9);
        x.stands(1, 14);
        CHECK.due("five from 19", x.rocket(3, 8), 2);
        x.stands(1, 13);
        CHECK.due("six from 19", x.rocket(3, 8), 0);
    }

    private static void sendingNeedsWhatItCosts() {
        for (int kind = 0; kind < 6; kind++) {
            String rocket = "r" + KINDS.charAt(kind) + "00;";
            RocketsAsk x = CHECK.told(rocket);
            x.grant(COSTS[kind] - 1);
            CHECK.due("1 too little", x.sends(0), -3);
            CHECK.due("in THE BOX yet", x.rocket(0, 3), 0);
            CHECK.due("nothing is paid", x.count(3), COSTS[kind] - 1);
            CHECK.due("1 too little told", Check.tell(x, "s0;"), -2000);
            CHECK.due("1 too little for a NIGHT", x.nights(1), COSTS[kind] - 1);
            x.grant(COSTS[kind]);
            CHECK.due("just enough", x.sends(0), 0);
            CHECK.due("SENT", x.rocket(0, 3), 1);
            x = CHECK.told(rocket, String.format("g%03d;s0;", COSTS[kind]));
            CHECK.due("just enough told", x.count(3), 0);
            x = CHECK.told(rocket, String.format("g%03d;", COSTS[kind]));
            CHECK.due("just enough for a NIGHT", x.nights(1), 0);
            x = CHECK.told(rocket, "g999;s0;");
            CHECK.due("SENT already", x.sends(0), -3);
            CHECK.due("SENT already, told", Check.tell(x, "s0;"), -2000);
            CHECK.due("paid once", x.count(3), 999 - COSTS[kind]);
        }
    }

    private static void noFartherThanItIsRead() {
        for (int figure = 0; figure <= 9; figure++) {
            RocketsAsk x = CHECK.told("rr" + figure + "2;p009;p009;p199;p199;");
            int reach = 2 + figure / 2;
            x.stands(0, 10 - reach);
            x.stands(1, 10 - reach - 1);
            x.stands(2, 10 + reach);
            x.stands(3, 10 + reach + 1);
            CHECK.due("who would read it", x.rocket(0, 8), 1 + 4);
            x.sends(0);
            CHECK.due("just near enough below", x.keeps(0, 2), 99);
            CHECK.due("one too far below", x.keeps(1, 2), 0);
            CHECK.due("just near enough above", x.keeps(2, 2), 99);
            CHECK.due("one too far above", x.keeps(3, 2), 0);
        }
    }

    private static void wordsForMindsNights() {
        for (int minds = 0; minds <= 9; minds++) {
            RocketsAsk x = CHECK.told("rs03;p10" + minds + ";s0;");
            int kept = minds == 9 ? 99 : minds;
            CHECK.due("he has it for", x.keeps(0, 3), kept);
            CHECK.due("he has it", x.reader(0, 2), minds == 0 ? 0 : 8);
            CHECK.due("WORDS", x.count(5), minds == 0 ? 0 : 1);
            for (int n = 1; n <= 10; n++) {
                x.nights(1);
                CHECK.due("behind " + n, x.keeps(0, 3), minds == 9 ? 99 : Math.max(0, minds - n));
                CHECK.due("he has it yet", x.reader(0, 2), n < minds || minds == 9 ? 8 : 0);
            }
        }
    }

    private static void onlyIfThatIsMore() {
        RocketsAsk x = CHECK.told("rs00;rs00;rs00;p104;p109;s0;");
        x.sends(1);
        CHECK.due("as much as he has it", x.keeps(0, 0), 4);
        CHECK.due("for ever once more", x.keeps(1, 0), 99);
        Check.tell(x, "s2;n01;b0;");
        CHECK.due("a NIGHT less", x.keeps(0, 0), 3);
        x.sends(0);
        CHECK.due("more than he has it", x.keeps(0, 0), 4);
    }

    private static void oneNightLess() {
        RocketsAsk x = CHECK.told("rs00;p101;p102;p109;g001;s0;");
        x.nights(1);
        CHECK.due("1 becomes 0", x.keeps(0, 0), 0);
        CHECK.due("2 becomes 1", x.keeps(1, 0), 1);
        CHECK.due("99 stays", x.keeps(2, 0), 99);
        x.nights(1);
        CHECK.due("0 stays", x.keeps(0, 0), 0);
        CHECK.due("1 becomes 0", x.keeps(1, 0), 0);
        for (int i = 0; i < 16; i++) {
            x.nights(60);
        }
        CHECK.due("0 stays", x.keeps(1, 0), 0);
        CHECK.due("99 stays for ever", x.keeps(2, 0), 99);
        CHECK.due("NIGHT", x.count(2), 962);
        x = CHECK.told("p102;".repeat(5) + SIX_SPARKS + "s0;s1;s2;s3;s4;s5;");
        CHECK.due("all WORDS of five READERS", x.count(5), 30);
        x.nights(1);
        CHECK.due("all of them yet", x.count(5), 30);
        x.nights(1);
        CHECK.due("none of them", x.count(5), 0);
    }

    private static void forgettingComesBeforeSending() {
        RocketsAsk x = CHECK.told("rs00;rs00;rs01;p101;");
        x.nights(1);
        CHECK.due("read in the NIGHT", x.keeps(0, 0), 1);
        x.nights(1);
        CHECK.due("forgotten and read again", x.keeps(0, 0), 1);
        x.nights(1);
        CHECK.due("forgotten", x.keeps(0, 0), 0);
        CHECK.due("another one", x.keeps(0, 1), 1);
        x = CHECK.told("rs00;rs00;rs01;p101;n03;");
        CHECK.due("forgotten, as told", x.keeps(0, 0), 0);
        CHECK.due("another one, as told", x.keeps(0, 1), 1);
    }

    private static void theLeastRocketForWhichGrantIsEnough() {
        RocketsAsk x = CHECK.told("rl00;rg01;rr02;rq03;rs04;");
        int[] grants = {999, 21, 20, 10, 9, 5, 4, 3, 2, 1};
        int[] due = {0, 0, 1, 1, 2, 2, 3, 3, 4, 4};
        x.image();
        for (int i = 0; i < grants.length; i++) {
            x.on();
            x.grant(grants[i]);
            x.nights(1);
            CHECK.due("SENT by " + grants[i], x.count(4), 1 << due[i]);
        }
        x = CHECK.told("rs00;rs01;rs02;s0;s2;");
        x.nights(1);
        CHECK.due("only from THE BOX", x.count(4), 7);
        CHECK.due("one of them", x.count(3), 97);
    }

    private static void noRocketAndNothing() {
        RocketsAsk x = CHECK.told("rr00;p109;g004;");
        CHECK.due("GRANT is not enough", x.nights(60), 4);
        CHECK.due("nothing is SENT", x.count(4), 0);
        CHECK.due("no WORDS", x.count(5), 0);
        CHECK.due("NIGHT", x.count(2), 60);
        x = CHECK.told("rr00;s0;");
        CHECK.due("THE BOX is empty", x.nights(1), 95);
        CHECK.due("no ROCKETS", new RocketsAsk().nights(1), 100);
    }
}
