/** Promises 14 to 25: what will be, what would be best, and what there is of words. */
public final class ThoughtTest {
    private static final Check CHECK = new Check("ThoughtTest");
    private static final String SIX_SPARKS = "rs00;rs01;rs02;rs03;rs04;rs05;";
    private static final String SIX_SENT = "s0;s1;s2;s3;s4;s5;";

    public static void main(String[] args) {
        wordsThen();
        then();
        thoughtPassesTheLastNight();
        whole();
        next();
        fewest();
        fewestOfSeveral();
        windBest();
        move();
        forgo();
        firstUp();
        longest();
        seen();
        words();
        CHECK.end();
    }

    private static void wordsThen() {
        RocketsAsk x = CHECK.told("p109;p102;p139;" + SIX_SPARKS);
        String before = Check.look(x);
        int[] kept = {0, 1, 3, 7, 15, 31, 63, 63, 63};
        int[] forgot = {0, 1, 3, 6, 12, 24, 48, 32, 0};
        for (int n = 0; n <= 8; n++) {
            CHECK.due("wordsThen(0, " + n + ")", x.wordsThen(0, n), kept[n]);
            CHECK.due("wordsThen(1, " + n + ")", x.wordsThen(1, n), forgot[n]);
            CHECK.due("wordsThen(2, " + n + ")", x.wordsThen(2, n), 0);
        }
        CHECK.due("wordsThen(0, 60)", x.wordsThen(0, 60), 63);
        CHECK.due("wordsThen(3, -1)", x.wordsThen(3, -1), -1);
        CHECK.due("wordsThen(-1, 0)", x.wordsThen(-1, 0), -1);
        CHECK.due("wordsThen(0, -1)", x.wordsThen(0, -1), -4);
        CHECK.due("wordsThen(0, 61)", x.wordsThen(0, 61), -6);
        CHECK.same("only in mind", Check.look(x), before);
        CHECK.same("refusals", Check.refusals(x), "2 0 0 1 0 1 ");
    }

    private static void then() {
        RocketsAsk x = CHECK.told("rr00;rl00;rs01;g007;p109;");
        String before = Check.look(x);
        int[] grant = {7, 2, 1, 1};
        int[] sent = {0, 1, 5, 5};
        for (int n = 0; n <= 3; n++) {
            CHECK.due("then(" + n + ", 0)", x.then(n, 0), grant[n]);
            CHECK.due("then(" + n + ", 1)", x.then(n, 1), sent[n]);
        }
        CHECK.due("then(60, 0)", x.then(60, 0), 1);
        CHECK.due("then(-1, 2)", x.then(-1, 2), -4);
        CHECK.due("then(61, 2)", x.then(61, 2), -6);
        CHECK.due("then(60, 2)", x.then(60, 2), -2);
        CHECK.due("then(0, -1)", x.then(0, -1), -2);
        CHECK.same("only in mind", Check.look(x), before);
        CHECK.same("refusals", Check.refusals(x), "0 2 0 1 0 1 ");
    }

    private static void thoughtPassesTheLastNight() {
        RocketsAsk x = CHECK.told("n60;".repeat(16) + "n39;");
        CHECK.due("more letters", Check.tell(x, "p109;" + SIX_SPARKS), 7);
        CHECK.due("then(60, 0)", x.then(60, 0), 94);
        CHECK.due("wordsThen(0, 60)", x.wordsThen(0, 60), 63);
        CHECK.due("whole(0)", x.whole(0), 6);
        CHECK.due("next(1)", x.next(1), 6);
        CHECK.due("lots(1, 0, 1)", x.lots(1, 0, 1) >= 0 ? 1 : 0, 1);
        CHECK.due("count(2)", x.count(2), 999);
    }

    private static void whole() {
        RocketsAsk x = CHECK.told("p139;p105;p106;p109;" + SIX_SPARKS);
        CHECK.due("too far", x.whole(0), -9);
        CHECK.due("forgets too soon", x.whole(1), -9);
        CHECK.due("just in time", x.whole(2), 6);
        CHECK.due("whole(3)", x.whole(3), 6);
        CHECK.due("the first of two", x.whole(-1), 2);
        CHECK.due("whole(4)", x.whole(4), -1);
        CHECK.due("whole(-2)", x.whole(-2), -1);
        CHECK.due("whole(min)", x.whole(Integer.MIN_VALUE), -1);
        CHECK.same("refusals", Check.refusals(x), "3 0 0 0 0 0 ");
        x = CHECK.told("p109;" + SIX_SPARKS + SIX_SENT + "p109;b0;b1;b2;b3;b4;b5;");
        CHECK.due("now", x.whole(0), 0);
        CHECK.due("later", x.whole(1), 6);
        CHECK.due("who is first", x.whole(-1), 0);
        x = CHECK.told(SIX_SPARKS + "p109;w0;p059;s0;w5;");
        CHECK.due("lacks the word 0", x.whole(0), -9);
        CHECK.due("too far for the rest", x.whole(1), -9);
        CHECK.due("nobody ever", x.whole(-1), -9);
        // a later one of higher number is first
        x = CHECK.told("p109;p099;rs00;rs01;rs02;rs03;rs04;w4;rr05;rr05;s5;w3;");
        CHECK.due("too far for him", x.whole(0), -9);
        CHECK.due("near enough", x.whole(1), 5);
        CHECK.due("whole(-1)", x.whole(-1), 1);
    }

    private static void next() {
        RocketsAsk x = CHECK.told("rl00;rg00;rr00;rs00;g016;");
        CHECK.due("next(0)", x.next(0), 1);
        CHECK.due("next(1)", x.next(1), 3);
        x.grant(5);
        CHECK.due("next(0)", x.next(0), 2);
        CHECK.due("next(1)", x.next(1), 1);
        x.grant(4);
        CHECK.due("next(0)", x.next(0), 3);
        x.grant(0);
        CHECK.due("next(0)", x.next(0), -9);
        CHECK.due("next(1)", x.next(1), 0);
        CHECK.due("next(2)", x.next(2), -2);
        CHECK.due("next(-1)", x.next(-1), -2);
        CHECK.same("refusals", Check.refusals(x), "0 2 0 0 0 0 ");
        x = CHECK.told("rs00;".repeat(9) + "s0;");
        CHECK.due("next(0)", x.next(0), 1);
        CHECK.due("next(1)", x.next(1), 8);
        CHECK.due("count(2)", x.count(2), 0);
    }

    private static void fewest() {
        RocketsAsk x = CHECK.told("rr00;rr01;rr02;rr03;rr04;rr05;rs00;rs01;p109;p100;p139;g000;");
        String before = Check.look(x);
        CHECK.due("fewest(0, 0)", x.fewest(0, 0), 63);
        CHECK.due("fewest(0, 1)", x.fewest(0, 1), 22);
        CHECK.due("who minds nothing", x.fewest(1, 0), -9);
        CHECK.due("who minds nothing", x.fewest(1, 1), -9);
        CHECK.due("too far", x.fewest(2, 0), -9);
        CHECK.due("too far", x.fewest(2, 1), -9);
        CHECK.due("fewest(3, 2)", x.fewest(3, 2), -1);
        CHECK.due("fewest(-1, 0)", x.fewest(-1, 0), -1);
        CHECK.due("fewest(0, 2)", x.fewest(0, 2), -2);
        CHECK.due("fewest(0, -1)", x.fewest(0, -1), -2);
        CHECK.same("only in mind", Check.look(x), before);
        CHECK.same("refusals", Check.refusals(x), "2 2 0 0 0 0 ");
        x.grant(10);
        x.sends(2);
        CHECK.due("he has one", x.fewest(0, 0), 59);
        CHECK.due("he has one", x.fewest(0, 1), 17);
        x.stands(0, 0);
        x.sends(3);
        x.stands(0, 10);
        CHECK.due("one is out of the box", x.fewest(0, 0), -9);
        CHECK.due("one is out of the box", x.fewest(0, 1), -9);
        x = CHECK.told("p109;" + SIX_SPARKS + SIX_SENT);
        CHECK.due("he has it", x.fewest(0, 0), 0);
        CHECK.due("he has it", x.fewest(0, 1), 0);
    }

    private static void fewestOfSeveral() {
        RocketsAsk x = CHECK.told("rl00;rs00;rs01;rs02;rs03;rs04;rs05;rs05;p109;");
        CHECK.due("the least bits", x.fewest(0, 0), 1 + 4 + 8 + 16 + 32 + 64);
        CHECK.due("the cheapest", x.fewest(0, 1), 6);
        // a rocket that he can not read helps nothing
        x = CHECK.told("rs00;rl00;rl01;rl02;rl03;rl04;rl05;rs05;p129;");
        CHECK.due("fewest(0, 0)", x.fewest(0, 0), 126);
        CHECK.due("fewest(0, 1)", x.fewest(0, 1), 126);
    }

    private static void windBest() {
        RocketsAsk x = CHECK.told("p149;" + SIX_SPARKS);
        String before = Check.look(x);
        CHECK.due("windBest(6, 0)", x.windBest(6, 0), 8);
        CHECK.due("windBest(6, 1)", x.windBest(6, 1), 1);
        CHECK.due("windBest(5, 0)", x.windBest(5, 0), 0);
        CHECK.due("windBest(5, 1)", x.windBest(5, 1), 0);
        CHECK.due("windBest(30, 0)", x.windBest(30, 0), 8);
        CHECK.due("windBest(-1, 2)", x.windBest(-1, 2), -4);
        CHECK.due("windBest(31, 2)", x.windBest(31, 2), -6);
        CHECK.due("windBest(30, 2)", x.windBest(30, 2), -2);
        CHECK.due("windBest(0, -1)", x.windBest(0, -1), -2);
        CHECK.same("only in mind", Check.look(x), before);
        CHECK.due("wind(5)", x.wind(5), 5);
        CHECK.same("refusals", Check.refusals(x), "0 2 0 1 0 1 ");
        x = CHECK.told("p069;p089;p149;" + SIX_SPARKS);
        CHECK.due("two at once", x.windBest(6, 0), 2);
        CHECK.due("two at once", x.windBest(6, 1), 2);
        CHECK.due("by none", x.windBest(0, 0), 0);
        CHECK.due("by none", x.windBest(0, 1), 0);
    }

    private static void move() {
        RocketsAsk x = CHECK.told("p009;p102;" + SIX_SPARKS);
        String before = Check.look(x);
        CHECK.due("move(0, 3, 0)", x.move(0, 3, 0), 9);
        CHECK.due("move(0, 3, 1)", x.move(0, 3, 1), 3);
        CHECK.due("move(0, 30, 1)", x.move(0, 30, 1), 6);
        CHECK.due("move(1, 5, 0)", x.move(1, 5, 0), 9);
        CHECK.due("move(1, 5, 1)", x.move(1, 5, 1), 2);
        CHECK.due("move(1, 30, 0)", x.move(1, 30, 0), 0);
        CHECK.due("move(1, 30, 1)", x.move(1, 30, 1), 0);
        CHECK.due("move(0, 0, 0)", x.move(0, 0, 0), 0);
        CHECK.due("move(0, 0, 1)", x.move(0, 0, 1), 0);
        x.wind(9);
        CHECK.due("by the wind", x.move(0, 1, 0), 13);
        x.wind(5);
        CHECK.due("move(2, -1, 2)", x.move(2, -1, 2), -1);
        CHECK.due("move(-1, 0, 0)", x.move(-1, 0, 0), -1);
        CHECK.due("move(0, -1, 2)", x.move(0, -1, 2), -4);
        CHECK.due("move(0, 31, 2)", x.move(0, 31, 2), -6);
        CHECK.due("move(0, 30, 2)", x.move(0, 30, 2), -2);
        CHECK.due("move(0, 0, -1)", x.move(0, 0, -1), -2);
        CHECK.same("only in mind", Check.look(x), before);
        CHECK.same("refusals", Check.refusals(x), "2 2 0 1 0 1 ");
    }

    private static void forgo() {
        RocketsAsk x = CHECK.told("p109;rs00;rr00;rr01;s0;g005;");
        String before = Check.look(x);
        CHECK.due("what he has", x.forgo(1), 1);
        CHECK.due("forgo(30)", x.forgo(30), 1);
        CHECK.same("only in mind", Check.look(x), before);
        x.grant(10);
        CHECK.due("forgo(1)", x.forgo(1), 1);
        CHECK.due("both go up", x.forgo(2), -9);
        CHECK.due("forgo(0)", x.forgo(0), -4);
        CHECK.due("forgo(min)", x.forgo(Integer.MIN_VALUE), -4);
        CHECK.due("forgo(31)", x.forgo(31), -6);
        CHECK.same("refusals", Check.refusals(x), "0 0 0 2 0 1 ");
        x = CHECK.told("p109;rs00;rr00;rr00;rr01;s0;g010;");
        CHECK.due("the least of two", x.forgo(2), 1);
        x = CHECK.told("p109;rr00;rr01;g005;");
        CHECK.due("nobody reads what is thrown away", x.forgo(1), -9);
        x = CHECK.told("p099;p109;p139;rs00;rr90;rr90;s0;g010;");
        CHECK.due("no more by it", x.forgo(1), -9);
        // the second of two brings most
        x = CHECK.told("p109;p129;rr00;rl00;rr11;g021;");
        CHECK.due("the long one kept back", x.forgo(2), -9);
        x = CHECK.told("p109;p139;rs00;rl10;g021;");
        CHECK.due("the spark thrown away", x.forgo(1), 0);
    }

    private static void firstUp() {
        RocketsAsk x = CHECK.told("p109;rr00;rr01;g010;");
        String before = Check.look(x);
        CHECK.due("firstUp(1)", x.firstUp(1), 0);
        CHECK.due("both go up", x.firstUp(2), -9);
        CHECK.same("only in mind", Check.look(x), before);
        x.grant(5);
        CHECK.due("the grant is spent", x.firstUp(1), -9);
        x.grant(4);
        CHECK.due("the grant is not enough", x.firstUp(1), -9);
        CHECK.due("firstUp(0)", x.firstUp(0), -4);
        CHECK.due("firstUp(31)", x.firstUp(31), -6);
        CHECK.due("firstUp(30)", x.firstUp(30), -9);
        CHECK.same("refusals", Check.refusals(x), "0 0 0 1 0 1 ");
        x = CHECK.told("p109;p139;rs00;rl11;rl12;g021;");
        CHECK.due("the dear one first", x.firstUp(1), 1);
        CHECK.due("the dear one first", x.firstUp(30), 1);
        x.grant(20);
        CHECK.due("too dear", x.firstUp(1), -9);
        // sent already: it can not go up again
        x = CHECK.told("rr00;s0;p109;");
        CHECK.due("firstUp(1)", x.firstUp(1), -9);
    }

    private static void longest() {
        RocketsAsk x = CHECK.told("rr50;rg20;rs90;rr60;rd30;");
        CHECK.due("longest(0)", x.longest(0), 4);
        CHECK.due("longest(1)", x.longest(1), 5 + 10 + 1 + 5 + 11);
        x.turn(4, 1, 9);
        CHECK.due("longest(0)", x.longest(0), 3);
        x.turn(3, 0, 5);
        CHECK.due("the least of three", x.longest(0), 0);
        x.sends(0);
        CHECK.due("one that is sent", x.longest(0), 0);
        CHECK.due("longest(1)", x.longest(1), 10 + 1 + 5 + 1);
        CHECK.due("longest(2)", x.longest(2), -2);
        CHECK.due("longest(-1)", x.longest(-1), -2);
        CHECK.same("refusals", Check.refusals(x), "0 2 0 0 0 0 ");
        x = CHECK.told("rs00;rs00;s0;s1;");
        CHECK.due("no dark at all", x.longest(0), 0);
        CHECK.due("nothing in the box", x.longest(1), 0);
        x = new RocketsAsk();
        CHECK.due("longest(0)", x.longest(0), -9);
        CHECK.due("longest(1)", x.longest(1), 0);
    }

    private static void seen() {
        RocketsAsk x = CHECK.told("rs00;rr00;rg00;rd00;p109;p120;p159;p199;");
        CHECK.due("seen(0)", x.seen(0), 3);
        CHECK.due("the least of two", x.seen(1), 2);
        x.wind(7);
        CHECK.due("by the wind", x.seen(0), 3);
        CHECK.due("by the wind", x.seen(1), 2);
        x.turn(2, 1, 0);
        CHECK.due("by the wind", x.seen(1), 3);
        x.sends(3);
        CHECK.due("one that is sent", x.seen(1), 3);
        CHECK.due("one that is sent", x.seen(0), 3);
        CHECK.due("seen(2)", x.seen(2), -2);
        CHECK.due("seen(-1)", x.seen(-1), -2);
        CHECK.same("refusals", Check.refusals(x), "0 2 0 0 0 0 ");
        x = CHECK.told("rs00;rs01;p199;");
        CHECK.due("read by none", x.seen(0), 0);
        CHECK.due("read by none", x.seen(1), 0);
        x = CHECK.told("p199;");
        CHECK.due("no rockets", x.seen(0), 0);
        CHECK.due("no rockets", x.seen(1), -9);
    }

    private static void words() {
        RocketsAsk x = new RocketsAsk();
        CHECK.due("words(0)", x.words(0), 63);
        CHECK.due("words(1)", x.words(1), 63);
        CHECK.due("words(2)", x.words(2), 0);
        x = CHECK.told("p109;p129;rg00;rg05;rr02;rs01;s0;s1;s2;s3;");
        CHECK.due("words(0)", x.words(0), 8 + 16);
        CHECK.due("words(1)", x.words(1), 1 + 4 + 32);
        CHECK.due("words(2)", x.words(2), 3);
        CHECK.due("words(3)", x.words(3), -2);
        CHECK.due("words(-1)", x.words(-1), -2);
        CHECK.same("refusals", Check.refusals(x), "0 2 0 0 0 0 ");
        x = CHECK.told("p109;p139;rg00;rg01;rg02;rg03;rr04;rg05;s0;s1;s2;s3;s4;s5;");
        CHECK.due("words(0)", x.words(0), 0);
        CHECK.due("words(1)", x.words(1), 47);
        CHECK.due("words(2)", x.words(2), 4);
        x = CHECK.told("p139;p109;rg00;rr01;s0;s1;");
        CHECK.due("the first lacks it", x.words(1), 1);
        x = CHECK.told("p109;p109;p109;p109;p139;rg00;rg01;rr02;rg03;rg04;rg05;" + SIX_SENT);
        CHECK.due("four of five have it", x.words(2), 2);
        CHECK.due("four of five have it", x.words(1), 59);
        x = CHECK.told("p109;" + SIX_SPARKS + SIX_SENT);
        CHECK.due("words(1)", x.words(1), 63);
        CHECK.due("words(2)", x.words(2), 0);
    }
}
