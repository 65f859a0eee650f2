/** Promises 26 to 31: who is near, alone, told; two of them; rain and the mean. */
public final class ReadersTest {
    private static final Check CHECK = new Check("ReadersTest");
    private static final String SIX_SPARKS = "rs00;rs01;rs02;rs03;rs04;rs05;";
    private static final String SIX_SENT = "s0;s1;s2;s3;s4;s5;";
    private static final long REFUSED = 4000000000000000000L;

    public static void main(String[] args) {
        near();
        alone();
        tell();
        two();
        twoOfOneWord();
        twoRefused();
        rain();
        rainOverTime();
        rainRefused();
        mean();
        CHECK.end();
    }

    private static void near() {
        CHECK.due("near()", new RocketsAsk().near(), -9);
        CHECK.due("near()", CHECK.told("p000;").near(), 0);
        CHECK.due("near()", CHECK.told("p000;p190;").near(), 1);
        CHECK.due("near()", CHECK.told("p190;p120;p080;").near(), 1);
        CHECK.due("near()", CHECK.told("p190;p080;p120;").near(), 1);
        CHECK.due("near()", CHECK.told("w0;p050;p110;p100;").near(), 2);
    }

    /** Readers at both ends, to whom drifters come by the wind: the words of rockets 0 .. as told. */
    private static RocketsAsk ends(String low, String high) {
        RocketsAsk x = CHECK.told("g999;p009;p199;rd00;rd01;rd02;rd03;rd04;rd05;");
        x.wind(0);
        for (char c : low.toCharArray()) {
            x.sends(c - '0');
            x.boxes(c - '0');
        }
        x.wind(9);
        for (char c : high.toCharArray()) {
            x.sends(c - '0');
            x.boxes(c - '0');
        }
        return x;
    }

    private static void alone() {
        CHECK.due("alone()", new RocketsAsk().alone(), 0);
        CHECK.due("alone()", ends("", "").alone(), 0);
        CHECK.due("alone()", ends("0", "").alone(), 1);
        CHECK.due("alone()", ends("", "0").alone(), 2);
        CHECK.due("alone()", ends("0", "0").alone(), 0);
        CHECK.due("alone()", ends("01", "0").alone(), 1);
        CHECK.due("alone()", ends("01", "12").alone(), 3);
        CHECK.due("alone()", CHECK.told("p109;" + SIX_SPARKS + "s4;").alone(), 1);
        RocketsAsk x = CHECK.told("p099;p109;p119;rr00;rs01;s0;w4;s1;");
        CHECK.due("two have it", x.alone(), 0);
        x = CHECK.told("p099;p109;p119;rr00;rs01;s0;w3;s1;");
        CHECK.due("one has it", x.alone(), 1);
    }

    private static void tell() {
        CHECK.due("tell()", new RocketsAsk().tell(), -9);
        CHECK.due("one alone", CHECK.told("p109;" + SIX_SPARKS + SIX_SENT).tell(), -9);
        CHECK.due("half and half", ends("012", "345").tell(), 1);
        CHECK.due("all to the other", ends("012345", "").tell(), 1);
        CHECK.due("all to the one", ends("", "012345").tell(), 10);
        CHECK.due("some twice", ends("01234", "12345").tell(), 1);
        CHECK.due("both have it", ends("012345", "012345").tell(), -9);
        CHECK.due("one lacks to both", ends("01234", "01234").tell(), -9);
        RocketsAsk x = ends("012", "345");
        CHECK.due("a third", Check.tell(x, "p104;"), 1);
        CHECK.due("the first pair yet", x.tell(), 1);
        // the last has all; the first to be told is the first pair
        x = CHECK.told("p000;p100;p109;" + SIX_SPARKS + SIX_SENT);
        CHECK.due("tell()", x.tell(), 20);
        String before = Check.look(x);
        x.tell();
        CHECK.same("only in mind", Check.look(x), before);
    }

    private static void two() {
        RocketsAsk x = CHECK.told("p109;p109;p199;" + SIX_SPARKS);
        String before = Check.look(x);
        CHECK.due("all of it", x.two(0, 1, 6), 11);
        CHECK.due("no word", x.two(0, 1, 0), 0);
        CHECK.due("one word is not more", x.two(0, 1, 1), 0);
        CHECK.due("two words", x.two(0, 1, 2), 11);
        CHECK.due("the other is far", x.two(0, 2, 6), 10);
        CHECK.due("the first is far", x.two(2, 1, 6), 1);
        CHECK.due("two(1, 0, 30)", x.two(1, 0, 30), 11);
        CHECK.same("only in mind", Check.look(x), before);
    }

    /** One word makes both whole: who is it alone has 3 more, and the second to look has nothing. */
    private static void twoOfOneWord() {
        RocketsAsk x = CHECK.told("p109;p109;" + SIX_SPARKS + "s0;s1;s2;s3;s4;");
        CHECK.due("the other looks", x.two(0, 1, 1), 1);
        CHECK.due("the other looks", x.two(1, 0, 1), 1);
        x = CHECK.told("p109;p199;" + SIX_SPARKS + SIX_SENT);
        CHECK.due("he has it already", x.two(0, 1, 3), 0);
        // they forget while they look away
        x = CHECK.told("p102;p102;rs00;rs01;rs02;s0;s1;b0;b1;");
        CHECK.due("two(0, 1, 1)", x.two(0, 1, 1), 0);
        CHECK.due("two(0, 1, 2)", x.two(0, 1, 2), 11);
        CHECK.due("two(0, 1, 4)", x.two(0, 1, 4), 0);
    }

    private static void twoRefused() {
        RocketsAsk x = CHECK.told("p109;p109;" + SIX_SPARKS);
        CHECK.due("two(2, 0, -1)", x.two(2, 0, -1), -1);
        CHECK.due("two(0, 2, 31)", x.two(0, 2, 31), -1);
        CHECK.due("two(-1, 0, 0)", x.two(-1, 0, 0), -1);
        CHECK.due("two(0, -1, 0)", x.two(0, -1, 0), -1);
        CHECK.due("one twice", x.two(1, 1, 31), -1);
        CHECK.due("two(0, 1, -1)", x.two(0, 1, -1), -4);
        CHECK.due("two(0, 1, 31)", x.two(0, 1, 31), -6);
        CHECK.same("refusals", Check.refusals(x), "5 0 0 1 0 1 ");
    }

    private static void rains(RocketsAsk x, int n, int t, long above, long below) {
        CHECK.due("rain(0, " + n + ", " + t + ", 0)", x.rain(0, n, t, 0), above);
        CHECK.due("rain(0, " + n + ", " + t + ", 1)", x.rain(0, n, t, 1), below);
    }

    private static void rain() {
        RocketsAsk x = CHECK.told("p109;" + SIX_SPARKS);
        String before = Check.look(x);
        rains(x, 0, 2, 0, 1);
        rains(x, 5, 20, 0, 1);
        rains(x, 6, 2, 1, 64);
        rains(x, 7, 2, 1, 64);
        rains(x, 6, 3, 64, 729);
        rains(x, 6, 4, 729, 4096);
        rains(x, 7, 20, 47045881, 64000000);
        CHECK.same("only in mind", Check.look(x), before);
        x = CHECK.told("p109;" + SIX_SPARKS + "rs00;");
        rains(x, 7, 2, 3, 128);
        // 19^5 times (20^2 - 1) of 20^7
        rains(x, 7, 20, 2476099L * 399, 1280000000L);
        x = CHECK.told("p109;" + SIX_SPARKS + "s0;s1;s2;s3;s4;");
        rains(x, 1, 20, 19, 20);
        rains(x, 2, 6, 5, 6);
        rains(x, 0, 6, 0, 1);
    }

    private static void rainOverTime() {
        RocketsAsk x = CHECK.told("p106;" + SIX_SPARKS);
        rains(x, 6, 2, 1, 64);
        rains(x, 7, 2, 0, 1);
        x = CHECK.told("p109;" + SIX_SPARKS + SIX_SENT);
        rains(x, 0, 2, 1, 1);
        rains(x, 7, 20, 1, 1);
        // what he reads in a dry night lasts longer; rain does not take what he has
        x = CHECK.told("p102;" + SIX_SPARKS + SIX_SENT + "b0;b1;b2;b3;b4;b5;");
        rains(x, 1, 5, 1, 1);
        rains(x, 2, 5, 0, 1);
        // what is sent in the rain is sent and paid for
        x = CHECK.told("p109;" + SIX_SPARKS + "s0;s1;s2;s3;s4;rr05;g005;");
        rains(x, 7, 2, 1, 2);
        x.grant(6);
        rains(x, 7, 2, 3, 4);
        x.grant(0);
        rains(x, 7, 2, 0, 1);
    }

    private static void rainRefused() {
        RocketsAsk x = CHECK.told("p109;");
        CHECK.due("rain(1, -1, 1, 2)", x.rain(1, -1, 1, 2), REFUSED + 1);
        CHECK.due("rain(-1, 0, 2, 0)", x.rain(-1, 0, 2, 0), REFUSED + 1);
        CHECK.due("rain(0, -1, 21, 2)", x.rain(0, -1, 21, 2), REFUSED + 4);
        CHECK.due("rain(0, 8, 1, 2)", x.rain(0, 8, 1, 2), REFUSED + 4);
        CHECK.due("rain(0, 0, min, 2)", x.rain(0, 0, Integer.MIN_VALUE, 2), REFUSED + 4);
        CHECK.due("rain(0, 8, 2, 2)", x.rain(0, 8, 2, 2), REFUSED + 6);
        CHECK.due("rain(0, 7, 21, 2)", x.rain(0, 7, 21, 2), REFUSED + 6);
        CHECK.due("rain(0, max, 2, 0)", x.rain(0, Integer.MAX_VALUE, 2, 0), REFUSED + 6);
        CHECK.due("rain(0, 7, 20, 2)", x.rain(0, 7, 20, 2), REFUSED + 2);
        CHECK.due("rain(0, 7, 20, -1)", x.rain(0, 7, 20, -1), REFUSED + 2);
        CHECK.same("refusals", Check.refusals(x), "2 2 0 3 0 3 ");
    }

    private static void means(String text, long above, long below) {
        RocketsAsk x = text.isEmpty() ? new RocketsAsk() : CHECK.told(text);
        CHECK.due("mean(0) of " + text, x.mean(0), above);
        CHECK.due("mean(1) of " + text, x.mean(1), below);
    }

    private static void mean() {
        means("", 0, 1);
        means("rr00;", 5, 1);
        means("rr00;rs00;", 3, 1);
        means("rr00;rg00;", 15, 2);
        means("rr00;rs00;rs00;", 7, 3);
        means("rl00;rq00;rd00;rs00;", 9, 1);
        means("rr00;rs00;rs00;s0;", 7, 3);
        means("rl00;".repeat(9), 21, 1);
        RocketsAsk x = CHECK.told("rr00;");
        CHECK.due("mean(2)", x.mean(2), REFUSED + 2);
        CHECK.due("mean(-1)", x.mean(-1), REFUSED + 2);
        CHECK.same("refusals", Check.refusals(x), "0 2 0 0 0 0 ");
    }
}
