import java.math.BigInteger;

/** The boundary cases of part II from TWO READERS on, of THE IMAGE and of count: a test for each sentence. */
public final class OddsBoundsTest {
    private static final Check CHECK = new Check("OddsBoundsTest");
    private static final String SIX_SPARKS = "rs00;rs01;rs02;rs03;rs04;rs05;";
    private static final String SIX_SENT = "s0;s1;s2;s3;s4;s5;";
    private static final int MIN = Integer.MIN_VALUE;
    private static final int MAX = Integer.MAX_VALUE;

    public static void main(String[] args) {
        twoLookForTheNextNights();
        twoOneLessForLooking();
        twoThreeMoreForTheQuestion();
        twoTheFirstPair();
        rainInNoNight();
        rainOdds1In2To20();
        rainIsAFractionInLeastTerms();
        meanIsAFractionInLeastTerms();
        aRowOf0To99();
        aRowOf16AtMost();
        saidByAnEmptyRow();
        saidByALongRow();
        saidByARowOfOnesAndNones();
        saidSentOrNotGrantNoMatter();
        saidKinds();
        judgedTheFirstThatIsNotSo();
        judged99IfMore();
        judgedOf16();
        judgedLeavesNoRow();
        clearedRow();
        drawsWrapAround();
        drawsGoThroughAllSeasons();
        eightNightsOfASeason();
        seasons1To20();
        imageAtTheEnds();
        imageHoldsAllButRowLettersRefusals();
        imageStaysAsItWas();
        countOfAnotherWhat();
        countAtTheEnds();
        CHECK.end();
    }

    private static void twoLookForTheNextNights() {
        RocketsAsk x = CHECK.told("p109;p109;" + SIX_SPARKS);
        CHECK.due("0 NIGHTS", x.two(0, 1, 0), 0);
        CHECK.due("1 NIGHT", x.two(0, 1, 1), 0);
        CHECK.due("2 NIGHTS", x.two(0, 1, 2), 11);
        CHECK.due("30 NIGHTS", x.two(0, 1, 30), 11);
        CHECK.due("the other way round", x.two(1, 0, 2), 11);
        Check.tell(x, "p109;p109;p109;");
        for (int a = 0; a < 5; a++) {
            for (int b = 0; b < 5; b++) {
                CHECK.due("two of five", x.two(a, b, 2), a == b ? -1 : 11);
            }
        }
        x = CHECK.told("p102;p109;" + SIX_SPARKS);
        CHECK.due("while he minds two", x.two(0, 1, 6), 11);
        CHECK.due("while he minds one", x.two(0, 1, 7), 1);
        CHECK.due("he has forgotten", x.two(0, 1, 30), 1);
        CHECK.due("no ROCKETS", CHECK.told("p109;p109;").two(0, 1, 30), 0);
    }

    private static void twoOneLessForLooking() {
        // one WORD is worth 1, looking costs 1: neither has more by looking
        CHECK.due("one WORD", CHECK.told("p109;p109;rs00;").two(0, 1, 30), 0);
        CHECK.due("two WORDS", CHECK.told("p109;p109;rs00;rs01;").two(0, 1, 30), 11);
        CHECK.due("two for the one", CHECK.told("p109;p199;rs00;rs01;").two(0, 1, 30), 10);
        CHECK.due("two for the other", CHECK.told("p199;p109;rs00;rs01;").two(0, 1, 30), 1);
        CHECK.due("he has one of two", CHECK.told("p109;rs00;s0;b0;p109;rs01;").two(0, 1, 30), 1);
    }

    private static void twoThreeMoreForTheQuestion() {
        RocketsAsk x = CHECK.told("p109;p109;" + SIX_SPARKS + "s0;s1;s2;s3;s4;");
        // 5 each; who looks alone has 6 - 1 + 3, both looking 6 - 1 each
        CHECK.due("one of them looks", x.two(0, 1, 1), 1);
        CHECK.due("one of them looks", x.two(1, 0, 1), 1);
        x.sends(5);
        CHECK.due("both have it", x.two(0, 1, 1), 0);
        x = CHECK.told("p109;p109;" + SIX_SPARKS + "s0;s1;s2;s3;");
        CHECK.due("two WORDS lack: both look", x.two(0, 1, 2), 11);
        CHECK.due("one of two: no QUESTION", x.two(0, 1, 1), 0);
        x = CHECK.told("p109;" + SIX_SPARKS + SIX_SENT + "b5;p109;");
        CHECK.due("he has it whatever he does", x.two(0, 1, 1), 0);
        CHECK.due("he has it whatever he does", x.two(1, 0, 1), 0);
        x = CHECK.told("p109;p109;" + SIX_SPARKS + "s0;s1;s2;s3;s4;");
        x.stands(0, 0);
        // the last WORD comes to one alone: 6 - 1 + 3 for looking, where 6 - 1 would be no more than 5
        CHECK.due("the other looks for the QUESTION", x.two(0, 1, 1), 1);
        CHECK.due("the first looks for the QUESTION", x.two(1, 0, 1), 10);
    }

    private static void twoTheFirstPair() {
        // of one WORD each all four pairs do
        CHECK.due("00 of 00, 01, 10, 11", CHECK.told("p109;p109;rs00;").two(1, 0, 1), 0);
        // one looks for two WORDS, to the other one WORD is the same
        RocketsAsk x = CHECK.told("p119;p129;rs00;rr01;");
        CHECK.due("10 of 10, 11", x.two(0, 1, 2), 10);
        CHECK.due("01 of 01, 11", x.two(1, 0, 2), 1);
    }

    private static void rains(RocketsAsk x, int n, int t, long above, long below) {
        CHECK.due("rain(0, " + n + ", " + t + ", 0)", x.rain(0, n, t, 0), above);
        CHECK.due("rain(0, " + n + ", " + t + ", 1)", x.rain(0, n, t, 1), below);
    }

    private static void rainInNoNight() {
        rains(CHECK.told("p109;" + SIX_SPARKS), 0, 2, 0, 1);
        rains(CHECK.told("p109;" + SIX_SPARKS), 0, 20, 0, 1);
        rains(CHECK.told("p101;" + SIX_SPARKS + SIX_SENT), 0, 2, 1, 1);
        rains(CHECK.told("p101;" + SIX_SPARKS + SIX_SENT), 0, 20, 1, 1);
        rains(CHECK.told("p101;" + SIX_SPARKS + SIX_SENT), 1, 20, 0, 1);
    }

    private static void rainOdds1In2To20() {
        RocketsAsk x = CHECK.told("p109;" + SIX_SPARKS + "s0;s1;s2;s3;s4;");
        for (int t = 2; t <= 20; t++) {
            rains(x, 1, t, t - 1, t);
            rains(x, 7, t, t - 1, t);
        }
        x = CHECK.told("p109;" + SIX_SPARKS);
        rains(x, 6, 20, 47045881, 64000000);
        rains(x, 6, 2, 1, 64);
        rains(x, 5, 2, 0, 1);
        x = CHECK.told("p109;rs00;" + SIX_SPARKS + "s1;");
        // the first of the seven is a word that he has
        rains(x, 7, 2, 1, 32);
        rains(x, 7, 20, 2476099, 3200000);
    }

    private static void rainIsAFractionInLeastTerms() {
        RocketsAsk x = CHECK.told("p109;" + SIX_SPARKS + "rs05;s0;s1;s2;s3;s4;");
        rains(x, 1, 3, 2, 3);
        rains(x, 2, 2, 3, 4);
        rains(x, 2, 3, 8, 9);
        rains(x, 2, 20, 399, 400);
        rains(x, 7, 20, 399, 400);
        x = CHECK.told("p109;" + SIX_SPARKS + SIX_SENT);
        rains(x, 7, 20, 1, 1);
        rains(x, 7, 2, 1, 1);
        x = CHECK.told("p109;rs00;");
        rains(x, 7, 20, 0, 1);
    }

    private static void meanIsAFractionInLeastTerms() {
        String[] texts = {"w5;", "rs00;", "rs00;rq00;", "rs00;rr00;rs00;", "rl00;rg00;", "rl00;".repeat(9),
            "rs00;".repeat(8) + "rl00;", "rr00;rg00;rr00;rg00;", "rs00;rl00;s0;s1;"};
        int[] above = {0, 1, 2, 7, 31, 21, 29, 15, 11};
        int[] below = {1, 1, 1, 3, 2, 1, 9, 2, 1};
        for (int i = 0; i < texts.length; i++) {
            CHECK.due("mean(0) of " + texts[i], CHECK.told(texts[i]).mean(0), above[i]);
            CHECK.due("mean(1) of " + texts[i], CHECK.told(texts[i]).mean(1), below[i]);
        }
    }

    private static void rows(RocketsAsk x, int... row) {
        x.clear();
        for (int i = 0; i < row.length; i++) {
            CHECK.due("row(" + row[i] + ")", x.row(row[i]), i + 1);
        }
    }

    private static void aRowOf0To99() {
        RocketsAsk x = new RocketsAsk();
        CHECK.due("below", x.row(-1), -4);
        CHECK.due("the least", x.row(0), 1);
        CHECK.due("the greatest", x.row(99), 2);
        CHECK.due("above", x.row(100), -6);
        CHECK.due("how many", x.count(6), 2);
    }

    private static void aRowOf16AtMost() {
        RocketsAsk x = new RocketsAsk();
        for (int i = 1; i <= 16; i++) {
            CHECK.due("number " + i, x.row(99), i);
        }
        CHECK.due("the 17th", x.row(99), -6);
        CHECK.due("how many", x.count(6), 16);
        CHECK.due("cleared", x.clear(), 16);
        CHECK.due("there is room again", x.row(99), 1);
    }

    private static void saidByAnEmptyRow() {
        RocketsAsk x = CHECK.told("p109;rs00;");
        CHECK.due("all WORDS", x.whatSaid(0, 0), 63);
        CHECK.due("all KINDS", x.whatSaid(0, 1), 63);
        x = CHECK.told("rs00;");
        CHECK.due("all WORDS without READERS", x.whatSaid(0, 0), 63);
        CHECK.due("all KINDS without READERS", x.whatSaid(0, 1), 63);
    }

    private static void saidByALongRow() {
        RocketsAsk x = CHECK.told("p109;p109;rs00;");
        rows(x, 1);
        CHECK.due("shorter than the READERS", x.whatSaid(0, 0), 63);
        rows(x, 1, 1);
        CHECK.due("as long as the READERS", x.whatSaid(0, 0), 63);
        rows(x, 1, 0);
        CHECK.due("the last is not so", x.whatSaid(0, 0), 0);
        rows(x, 1, 1, 0);
        CHECK.due("longer than the READERS", x.whatSaid(0, 0), 0);
        CHECK.due("longer than the READERS", x.whatSaid(0, 1), 0);
        x = CHECK.told("rs00;");
        rows(x, 0);
        CHECK.due("no READERS", x.whatSaid(0, 0), 0);
        x = CHECK.told("p109;p109;p109;p109;p109;rs00;");
        rows(x, 1, 1, 1, 1, 1);
        CHECK.due("all five", x.whatSaid(0, 0), 63);
        rows(x, 1, 1, 1, 1, 0);
        CHECK.due("not the fifth", x.whatSaid(0, 0), 0);
    }

    private static void saidByARowOfOnesAndNones() {
        RocketsAsk x = CHECK.told("p109;p100;p129;" + SIX_SPARKS + "s0;s1;s2;s3;s4;");
        rows(x, 6, 0, 0);
        CHECK.due("the WORD that he lacks", x.whatSaid(5, 0), 32);
        rows(x, 5, 0, 0);
        CHECK.due("a WORD that he has", x.whatSaid(5, 0), 31);
        rows(x, 5, 1);
        CHECK.due("who minds nothing has none", x.whatSaid(5, 0), 0);
        rows(x, 5, 0, 1);
        CHECK.due("too far", x.whatSaid(5, 0), 0);
        rows(x, 7);
        CHECK.due("more than there are", x.whatSaid(5, 0), 0);
        rows(x, 4);
        CHECK.due("fewer than he has", x.whatSaid(5, 0), 0);
        CHECK.due("the ROW stays", x.count(6), 1);
    }

    private static void saidSentOrNotGrantNoMatter() {
        RocketsAsk x = CHECK.told("p109;rr00;rl01;s0;g000;");
        rows(x, 2);
        CHECK.due("GRANT no matter", x.whatSaid(1, 0), 62);
        CHECK.due("SENT already", x.whatSaid(0, 0), 62);
        rows(x, 1);
        CHECK.due("SENT already", x.whatSaid(0, 0), 1);
        CHECK.due("GRANT is as it was", x.count(3), 0);
        CHECK.due("SENT is as it was", x.count(4), 1);
    }

    private static void saidKinds() {
        RocketsAsk x = CHECK.told("p119;p129;p159;p009;rr05;");
        rows(x, 1, 0, 0, 0);
        CHECK.due("SPARK and QUIET", x.whatSaid(0, 1), 2 + 16);
        rows(x, 1, 1, 0, 0);
        CHECK.due("ROCKET", x.whatSaid(0, 1), 1);
        rows(x, 1, 1, 1, 0);
        CHECK.due("GOLD and DRIFTER", x.whatSaid(0, 1), 4 + 8);
        rows(x, 1, 1, 1, 1);
        CHECK.due("LONG", x.whatSaid(0, 1), 32);
        x.wind(4);
        rows(x, 0, 0, 0, 0);
        CHECK.due("SPARK and QUIET by WIND 4", x.whatSaid(0, 1), 2 + 16);
        rows(x, 1, 1, 0, 0);
        CHECK.due("GOLD and DRIFTER by WIND 4", x.whatSaid(0, 1), 4 + 8);
        rows(x, 1, 1, 1, 1);
        CHECK.due("LONG by WIND 4", x.whatSaid(0, 1), 32);
    }

    private static void judges(RocketsAsk x, int due, int... row) {
        rows(x, row);
        CHECK.due("judge()", x.judge(), due);
    }

    private static void judgedTheFirstThatIsNotSo() {
        RocketsAsk x = CHECK.told("rr00;rr00;rr00;g012;");
        judges(x, -9);
        judges(x, -9, 12);
        judges(x, 0, 11);
        judges(x, 0, 13, 7, 2);
        judges(x, 0, 13, 8, 3);
        judges(x, 1, 12, 6, 3);
        judges(x, 2, 12, 7, 3);
        judges(x, 2, 12, 7, 1, 9);
        judges(x, -9, 12, 7, 2, 2, 2);
        judges(x, 4, 12, 7, 2, 2, 0);
        x.grant(0);
        judges(x, -9, 0, 0, 0);
    }

    private static void judged99IfMore() {
        RocketsAsk x = CHECK.told("rs00;rs00;rs00;");
        judges(x, -9, 99, 99, 98, 97);
        judges(x, 2, 99, 99, 99, 97);
        x.grant(999);
        judges(x, -9, 99, 99, 99, 99, 99);
        judges(x, 0, 98);
        x.grant(98);
        judges(x, 0, 99);
        judges(x, -9, 98, 97, 96, 95, 95);
    }

    private static void judgedOf16() {
        RocketsAsk x = CHECK.told("rs00;".repeat(9), "g015;");
        judges(x, -9, 15, 14, 13, 12, 11, 10, 9, 8, 7, 6, 6, 6, 6, 6, 6, 6);
        judges(x, 15, 15, 14, 13, 12, 11, 10, 9, 8, 7, 6, 6, 6, 6, 6, 6, 5);
        judges(x, 9, 15, 14, 13, 12, 11, 10, 9, 8, 7, 7, 6, 6, 6, 6, 6, 6);
    }

    private static void judgedLeavesNoRow() {
        RocketsAsk x = new RocketsAsk();
        judges(x, -9, 99, 99);
        CHECK.due("all of it was so", x.count(6), 0);
        judges(x, 1, 99, 98, 99);
        CHECK.due("one was not so", x.count(6), 0);
        judges(x, -9);
        CHECK.due("it had none", x.count(6), 0);
        CHECK.due("a new ROW", x.row(5), 1);
    }

    private static void clearedRow() {
        RocketsAsk x = new RocketsAsk();
        CHECK.due("it had none", x.clear(), 0);
        rows(x, 1, 2, 3);
        CHECK.due("it had three", x.clear(), 3);
        CHECK.due("it has none", x.count(6), 0);
        CHECK.due("it had none", x.clear(), 0);
    }

    /** The DRAWS below 10 from this seed on, worked out without a sign and without an int. */
    private static int[] draws(int seed, int count) {
        int[] all = new int[count];
        BigInteger z = BigInteger.valueOf(seed);
        for (int i = 0; i < count; i++) {
            z = z.multiply(BigInteger.valueOf(1664525)).add(BigInteger.valueOf(1013904223));
            z = z.mod(BigInteger.ONE.shiftLeft(32));
            all[i] = z.mod(BigInteger.ONE.shiftLeft(31)).divide(BigInteger.valueOf(256)).mod(BigInteger.TEN).intValue();
        }
        return all;
    }

    /** The WIND by which all three READERS, a STEP apart, read the spark of the first NIGHT. */
    private static int firstWind(int seed) {
        for (int wind = 0; wind <= 9; wind++) {
            RocketsAsk x = CHECK.told("rs00;p009;p009;p009;");
            x.stands(0, 4 + wind);
            x.stands(1, 5 + wind);
            x.stands(2, 6 + wind);
            if (x.lots(1, seed, 1) == 3) {
                return wind;
            }
        }
        return -1;
    }

    private static void drawsWrapAround() {
        int[] seeds = {0, -1, MIN, MAX, 1, 2, 3, 4, 5, 6, 7, 255, 256, -1013904223, 1234567890, -1234567890};
        for (int seed : seeds) {
            CHECK.due("the first DRAW of " + seed, firstWind(seed), draws(seed, 1)[0]);
        }
        // 1013904223 by 256 is 3960563; the greatest and the least int differ from -1 and 0 by the sign's bit alone
        CHECK.due("seed 0", firstWind(0), 3);
        CHECK.due("seed min", firstWind(MIN), 3);
        CHECK.due("seed -1", firstWind(-1), 1);
        CHECK.due("seed max", firstWind(MAX), 1);
    }

    /** Of each season the DRAW of this number alone decides what a READER who minds 1 NIGHT has. */
    private static int seasonsRead(int seed, int seasons, int number, int from, int to) {
        int[] all = draws(seed, 8 * seasons);
        int read = 0;
        for (int season = 0; season < seasons; season++) {
            int wind = all[8 * season + number];
            read += wind >= from && wind <= to ? 1 : 0;
        }
        return read;
    }

    private static void drawsGoThroughAllSeasons() {
        for (int seed : new int[] {0, -1, MIN, MAX, 7, 99999}) {
            // a spark is read at 10 by WIND 4, 5, 6, and for ever
            RocketsAsk x = CHECK.told("p109;rs00;");
            for (int n = 1; n <= 20; n++) {
                CHECK.due("lots(" + n + ", " + seed + ", 1)", x.lots(n, seed, 1), seasonsRead(seed, n, 0, 4, 6));
            }
        }
    }

    private static void eightNightsOfASeason() {
        for (int seed : new int[] {0, -1, 7, MAX}) {
            // only the eighth ROCKET's WORD is minded yet; the ninth does not go up
            RocketsAsk x = CHECK.told("p101;" + "rs00;".repeat(9));
            CHECK.due("the eighth of " + seed, x.lots(20, seed, 1), seasonsRead(seed, 20, 7, 4, 6));
            x = CHECK.told("p102;" + "rs00;".repeat(7));
            CHECK.due("the seventh of " + seed, x.lots(20, seed, 1), seasonsRead(seed, 20, 6, 4, 6));
            x = CHECK.told("g999;p109;" + "rl90;".repeat(8) + "rl91;");
            CHECK.due("the ninth does not go up", x.lots(20, seed, 1), 20);
        }
    }

    private static void seasons1To20() {
        RocketsAsk x = CHECK.told("p109;p109;" + SIX_SPARKS + SIX_SENT);
        CHECK.due("one season", x.lots(1, 0, 0), 2);
        CHECK.due("one season", x.lots(1, 0, 1), 12);
        CHECK.due("twenty seasons", x.lots(20, 0, 0), 40);
        CHECK.due("twenty seasons", x.lots(20, 0, 1), 240);
        x = CHECK.told("p108;" + SIX_SPARKS + SIX_SENT);
        CHECK.due("forgotten in a season", x.lots(20, 0, 1), 0);
        CHECK.due("no READERS", CHECK.told(SIX_SPARKS).lots(20, 0, 0), 0);
        CHECK.due("no READERS", CHECK.told(SIX_SPARKS).lots(20, 0, 1), 0);
        // figure 9 is read at 10 from wherever the WIND takes it
        x = CHECK.told("p108;rl90;rl91;rl92;rl93;rl94;rl95;g999;");
        CHECK.due("each season is from now", x.lots(20, 3, 0), 20);
        CHECK.due("each season is from now", x.lots(20, 3, 1), 120);
    }

    private static void imageAtTheEnds() {
        RocketsAsk x = new RocketsAsk();
        CHECK.due("there is none", x.on(), -3);
        CHECK.due("of nothing", x.image(), 0);
        Check.tell(x, "p109;rs00;w9;g000;n60;");
        CHECK.due("on to nothing", x.on(), 0);
        CHECK.same("nothing", Check.look(x), "0 0 0 100 0 0 0 0 ");
        CHECK.due("WIND", x.wind(5), 5);
        x = CHECK.told("n60;".repeat(16) + "n39;");
        CHECK.due("of NIGHT 999", x.image(), 999);
        CHECK.due("on to NIGHT 999", x.on(), 999);
        CHECK.due("NIGHT above 999", x.nights(1), -6);
        String full = "p109;p192;p005;p100;p137;" + "rl95;rs00;".repeat(4) + "rr33;";
        x = CHECK.told(full, "g999;s0;s8;n03;w9;");
        CHECK.due("of all nine and five", x.image(), 3);
        String then = Check.look(x);
        Check.tell(x, "b0;b1;b2;b8;w0;n60;g001;");
        for (int i = 0; i < 9; i++) {
            x.turn(i, 4, i);
        }
        for (int i = 0; i < 5; i++) {
            x.stands(i, 3 * i);
        }
        CHECK.due("on from it", x.on(), 3);
        CHECK.same("all is as then", Check.look(x), then);
        CHECK.due("WIND as then", x.wind(5), 9);
    }

    private static void imageHoldsAllButRowLettersRefusals() {
        RocketsAsk x = CHECK.told("rs00;rs00;");
        rows(x, 99, 99);
        x.letter('w');
        x.wind(-1);
        x.image();
        x.row(98);
        x.letter('3');
        x.letter(';');
        x.wind(10);
        x.nights(1);
        CHECK.due("on from it", x.on(), 0);
        CHECK.due("the ROW is as it was", x.count(6), 3);
        CHECK.due("the letters are as they were", x.count(7), 3);
        CHECK.same("the REFUSALS are as they were", Check.refusals(x), "0 0 0 1 0 1 ");
        CHECK.due("all of the ROW", x.judge(), -9);
        CHECK.due("all of the letters", x.valley(), 1);
        CHECK.due("WIND told", x.wind(5), 3);
        x.on();
        CHECK.due("the ROW does not come back", x.count(6), 0);
        CHECK.due("the letters do not come back", x.count(7), 0);
    }

    private static void imageStaysAsItWas() {
        RocketsAsk x = CHECK.told("p104;rs00;rs01;");
        x.image();
        for (int i = 0; i < 3; i++) {
            x.nights(2);
            x.stands(0, i);
            x.turn(0, i, i);
            CHECK.due("on from it", x.on(), 0);
            CHECK.due("SENT", x.count(4), 0);
            CHECK.due("WORDS", x.count(5), 0);
            CHECK.due("PLACE", x.reader(0, 0), 10);
            CHECK.due("KIND", x.rocket(0, 0), 1);
        }
        x.nights(1);
        CHECK.due("another one", x.image(), 1);
        x.nights(1);
        CHECK.due("on from the other", x.on(), 1);
        CHECK.due("SENT", x.count(4), 1);
        CHECK.due("WORDS", x.keeps(0, 0), 4);
    }

    private static void countOfAnotherWhat() {
        RocketsAsk x = CHECK.told("p109;rs00;");
        for (int what = -20; what <= 40; what++) {
            boolean known = what >= 0 && what <= 7 || what >= 11 && what <= 16;
            CHECK.due("count(" + what + ") is another what", x.count(what) == -9 ? 1 : 0, known ? 0 : 1);
        }
        CHECK.due("count(min)", x.count(MIN), -9);
        CHECK.due("count(max)", x.count(MAX), -9);
        CHECK.same("nothing is counted", Check.refusals(x), "0 0 0 0 0 0 ");
    }

    private static void countAtTheEnds() {
        RocketsAsk x = CHECK.told("g999;p109;p109;p109;p109;p109;" + SIX_SPARKS + SIX_SENT, "rl00;rl00;rl00;s6;s7;s8;");
        int[] due = {9, 5, 0, 999 - 6 - 63, 511, 30, 0, 0};
        for (int what = 0; what <= 7; what++) {
            CHECK.due("count(" + what + ")", x.count(what), due[what]);
        }
        x = CHECK.told("p101;p109;rs00;s0;");
        CHECK.due("a WORD of each", x.count(5), 2);
        x.nights(1);
        CHECK.due("one has forgotten it", x.count(5), 1);
        CHECK.due("NIGHT", x.count(2), 1);
    }
}
