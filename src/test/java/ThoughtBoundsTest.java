import java.util.ArrayList;
import java.util.List;
import java.util.function.ToLongFunction;

/** The boundary cases of the document's part II up to TWO READERS: for each sentence that names one a test. */
public final class ThoughtBoundsTest {
    private static final Check CHECK = new Check("ThoughtBoundsTest");
    private static final String SIX_SPARKS = "rs00;rs01;rs02;rs03;rs04;rs05;";
    private static final String SIX_SENT = "s0;s1;s2;s3;s4;s5;";
    private static final String SIX_BACK = "b0;b1;b2;b3;b4;b5;";

    public static void main(String[] args) {
        inThoughtNightMayPass999();
        thoughtsChangeNothing();
        thoughtsDoNotHearEachOther();
        questionsAreOfNow();
        questionsAreOfNothing();
        questionsAreOfWhatChanged();
        wordsOfAReader();
        readersOfARocket();
        nightsOn0To60();
        wholeFirst();
        wholeNever();
        wholeBehindAllNine();
        firstOfSeveral();
        firstOfNone();
        nextOfNone();
        spentAtOnceAndLate();
        fewestOfSeveral();
        fewestOfNone();
        fewestWithoutGrant();
        cheapestOfAny();
        windBestOfSeveral();
        windBestAtTheEnds();
        windBestBehind0To30();
        moveOfSeveral();
        moveBehind0To30();
        forgoMoreThanElse();
        forgoOfSeveral();
        forgoOfNone();
        forgoBehind1To30();
        firstUpMoreThanElse();
        firstUpOfSeveral();
        firstUpGrantMustBeEnough();
        firstUpBehind1To30();
        longestOfSeveral();
        costOfAllInTheBox();
        seenOfSeveral();
        seenOfNone();
        lacksAndKnown();
        rareOfSeveral();
        nearOfSeveral();
        aloneOfNoneAndAll();
        tellOfSeveral();
        tellOfNone();
        CHECK.end();
    }

    private static List<ToLongFunction<RocketsAsk>> thoughts() {
        List<ToLongFunction<RocketsAsk>> all = new ArrayList<>();
        for (int i = 0; i <= 1; i++) {
            int what = i;
            all.add(x -> x.wordsThen(what, 60));
            all.add(x -> x.then(60, what));
            all.add(x -> x.whole(what));
            all.add(x -> x.next(what));
            all.add(x -> x.fewest(what, 0));
            all.add(x -> x.fewest(0, what));
            all.add(x -> x.windBest(30, what));
            all.add(x -> x.move(0, 30, what));
            all.add(x -> x.move(1, 3, what));
            all.add(x -> x.longest(what));
            all.add(x -> x.seen(what));
            all.add(x -> x.words(what));
            all.add(x -> x.rain(what, 7, 3, 0));
            all.add(x -> x.rain(0, 7, 20, what));
            all.add(x -> x.mean(what));
            all.add(x -> x.whatSaid(6, what));
            all.add(x -> x.lots(20, -5, what));
        }
        all.add(x -> x.whole(-1));
        all.add(x -> x.forgo(30));
        all.add(x -> x.forgo(2));
        all.add(x -> x.firstUp(30));
        all.add(x -> x.firstUp(2));
        all.add(x -> x.words(2));
        all.add(x -> x.near());
        all.add(x -> x.alone());
        all.add(x -> x.tell());
        all.add(x -> x.two(0, 1, 30));
        all.add(x -> x.two(1, 0, 2));
        return all;
    }

    private static final String SOME = "p109;p123;" + SIX_SPARKS + "rg52;rr44;w6;g030;s6;s4;";

    private static RocketsAsk early() {
        return CHECK.told(SOME);
    }

    private static RocketsAsk late() {
        return CHECK.told("n60;".repeat(16) + "n39;", SOME);
    }

    private static void inThoughtNightMayPass999() {
        int number = 0;
        for (ToLongFunction<RocketsAsk> thought : thoughts()) {
            CHECK.due("thought " + number + " at NIGHT 999", thought.applyAsLong(late()), thought.applyAsLong(early()));
            number++;
        }
        RocketsAsk x = late();
        for (int v : new int[] {19, 18, 17, 16}) {
            x.row(v);
        }
        CHECK.due("judge() at NIGHT 999", x.judge(), -9);
        CHECK.due("all the words then", late().wordsThen(0, 60), 63);
        CHECK.due("NIGHT stays", x.count(2), 999);
        CHECK.due("but in thought it may not", x.nights(1), -6);
    }

    private static void thoughtsChangeNothing() {
        int number = 0;
        for (ToLongFunction<RocketsAsk> thought : thoughts()) {
            RocketsAsk x = early();
            x.row(1);
            x.letter('w');
            x.image();
            thought.applyAsLong(x);
            RocketsAsk y = early();
            y.row(1);
            y.letter('w');
            y.image();
            CHECK.same("behind thought " + number, Check.lookThrough(x), Check.lookThrough(y));
            number++;
        }
    }

    /** What one thought tried out is not there for the next. */
    private static void thoughtsDoNotHearEachOther() {
        List<ToLongFunction<RocketsAsk>> all = thoughts();
        for (int first = 0; first < all.size(); first++) {
            for (int second = 0; second < all.size(); second++) {
                RocketsAsk x = early();
                all.get(first).applyAsLong(x);
                long due = all.get(second).applyAsLong(early());
                CHECK.due("thought " + second + " behind " + first, all.get(second).applyAsLong(x), due);
            }
        }
        RocketsAsk x = CHECK.told("p109;" + SIX_SPARKS);
        for (int rocket = 0; rocket < 6; rocket++) {
            x.whatSaid(rocket, 0);
            CHECK.due("FEWEST behind other WORDS of " + rocket, x.fewest(0, 0), 63);
            CHECK.due("LACKS behind other WORDS of " + rocket, x.words(0), 0);
            CHECK.due("its WORD is as it was", x.rocket(rocket, 2), rocket);
            x.whatSaid(rocket, 1);
            CHECK.due("CHEAPEST behind other KINDS of " + rocket, x.fewest(0, 1), 6);
            CHECK.due("COST behind other KINDS of " + rocket, x.longest(1), 6);
            CHECK.due("MEAN behind other KINDS of " + rocket, x.mean(0), 1);
            CHECK.due("its KIND is as it was", x.rocket(rocket, 0), 1);
        }
    }

    /** As early(), but more was told and thought of in between. */
    private static RocketsAsk earlyAgain(boolean sent) {
        RocketsAsk x = early();
        x.image();
        Check.tell(x, "p109;p109;p109;rl93;w5;g999;b6;b4;" + (sent ? "n09;" : ""));
        x.then(sent ? 60 : 0, 0);
        x.on();
        return x;
    }

    private static void questionsAreOfNow() {
        int number = 0;
        for (ToLongFunction<RocketsAsk> thought : thoughts()) {
            long due = thought.applyAsLong(early());
            CHECK.due("thought " + number + " of now", thought.applyAsLong(earlyAgain(true)), due);
            CHECK.due("thought " + number + " of now", thought.applyAsLong(earlyAgain(false)), due);
            number++;
        }
    }

    /** What was told before is no more once the image, or a call, made it otherwise. */
    private static void questionsAreOfNothing() {
        RocketsAsk x = new RocketsAsk();
        x.image();
        Check.tell(x, SOME);
        x.whole(0);
        x.on();
        int[] due = {x.rocket(0, 0), x.reader(0, 0), x.keeps(0, 0), x.sends(0), x.boxes(6), x.stands(0, 0),
            x.turn(0, 0, 0), x.wordsThen(0, 0), x.whole(0), x.fewest(0, 0), x.move(0, 0, 0), x.two(0, 1, 0),
            x.whatSaid(0, 0)};
        for (int refused : due) {
            CHECK.due("on from nothing there is nobody", refused, -1);
        }
        CHECK.due("RAIN on nobody", x.rain(0, 0, 2, 0), 4000000000000000001L);
        CHECK.due("FIRST of nobody", x.whole(-1), -9);
        CHECK.due("NEXT of none", x.next(0), -9);
        CHECK.due("LONGEST of none", x.longest(0), -9);
        CHECK.due("COST of none", x.longest(1), 0);
        CHECK.due("SEEN of none", x.seen(1), -9);
        CHECK.due("LACKS of none", x.words(0), 63);
        CHECK.due("KNOWN of nobody", x.words(1), 63);
        CHECK.due("NEAR of nobody", x.near(), -9);
        CHECK.due("ALONE of nobody", x.alone(), 0);
        CHECK.due("TELL of nobody", x.tell(), -9);
        CHECK.due("MEAN of none", x.mean(0), 0);
    }

    private static void questionsAreOfWhatChanged() {
        RocketsAsk x = CHECK.told("p109;p139;rr00;rg20;");
        x.turn(0, 3, 9);
        x.stands(0, 1);
        CHECK.due("DARK of now", x.rocket(0, 6), 20);
        CHECK.due("LONGEST of now", x.longest(0), 0);
        CHECK.due("MEAN of now", x.mean(0), 21);
        CHECK.due("SEEN of now", x.seen(0), 2);
        CHECK.due("NEAR of now", x.near(), 1);
        CHECK.due("what it had", x.turn(0, 0, 0), 39);
        x = earlyAgain(true);
        CHECK.due("THE BOX of now", x.boxes(6), 7);
        CHECK.due("the other is nobody now", x.two(0, 2, 0), -1);
        CHECK.due("the first is nobody now", x.two(2, 0, 0), -1);
        x = CHECK.told("p109;" + SIX_SPARKS + SIX_SENT);
        x.image();
        Check.tell(x, "p009;");
        CHECK.due("there is one to be told", x.tell(), 1);
        x.on();
        CHECK.due("there is nobody to be told now", x.tell(), -9);
        x = CHECK.told("p109;" + SIX_SPARKS);
        x.sends(0);
        CHECK.due("RARE of now", x.words(2), 1);
        CHECK.due("KNOWN of now", x.words(1), 1);
        CHECK.due("ALONE of now", x.alone(), 1);
        x.nights(1);
        CHECK.due("RARE of now", x.words(2), 2);
    }

    private static void wordsOfAReader() {
        CHECK.due("no WORDS", CHECK.told("p109;" + SIX_SPARKS).reader(0, 2), 0);
        CHECK.due("all WORDS", CHECK.told("p109;" + SIX_SPARKS + SIX_SENT).reader(0, 2), 63);
    }

    private static void readersOfARocket() {
        CHECK.due("nobody", CHECK.told("rl90;").rocket(0, 8), 0);
        RocketsAsk x = CHECK.told("rl90;p009;p191;p100;p055;p109;");
        CHECK.due("all five", x.rocket(0, 8), 31);
        CHECK.due("whoever minds nothing reads it too", x.rocket(0, 8) >> 2 & 1, 1);
        x.sends(0);
        CHECK.due("SENT already", x.rocket(0, 8), 31);
        x.wind(0);
        CHECK.due("from PLACE 0 not up to 19", x.rocket(0, 8), 29);
        x.grant(0);
        CHECK.due("GRANT no matter", x.rocket(0, 8), 29);
    }

    private static void nightsOn0To60() {
        RocketsAsk x = CHECK.told("p102;rs00;rs01;g001;s0;g001;");
        CHECK.due("WORDS 0 on are those he has", x.wordsThen(0, 0), 1);
        CHECK.due("GRANT 0 on is as it is", x.then(0, 0), 1);
        CHECK.due("SENT 0 on are as they are", x.then(0, 1), 1);
        CHECK.due("WORDS 1 on", x.wordsThen(0, 1), 3);
        CHECK.due("WORDS 2 on", x.wordsThen(0, 2), 2);
        CHECK.due("WORDS 3 on", x.wordsThen(0, 3), 0);
        CHECK.due("GRANT 1 on", x.then(1, 0), 0);
        CHECK.due("SENT 1 on", x.then(1, 1), 3);
        CHECK.due("WORDS 60 on", x.wordsThen(0, 60), 0);
        CHECK.due("GRANT 60 on", x.then(60, 0), 0);
        CHECK.due("SENT 60 on", x.then(60, 1), 3);
        x = CHECK.told("g999;" + "rl00;".repeat(9));
        for (int n = 0; n <= 60; n++) {
            int up = Math.min(n, 9);
            CHECK.due("GRANT " + n + " on", x.then(n, 0), 999 - 21 * up);
            CHECK.due("SENT " + n + " on", x.then(n, 1), (1 << up) - 1);
        }
    }

    private static void wholeFirst() {
        RocketsAsk x = CHECK.told("p106;" + SIX_SPARKS + SIX_SENT + SIX_BACK);
        CHECK.due("he has it now", x.whole(0), 0);
        x.nights(6);
        CHECK.due("he has it yet", x.whole(0), 0);
        x.nights(1);
        CHECK.due("he has forgotten one", x.reader(0, 2), 62);
        CHECK.due("and never has it again", x.whole(0), -9);
        x.boxes(0);
        CHECK.due("behind one NIGHT", x.wordsThen(0, 1), 61);
        CHECK.due("another is gone by then", x.whole(0), -9);
        x = CHECK.told("p106;" + SIX_SPARKS);
        CHECK.due("in 6 NIGHTS just so", x.whole(0), 6);
        CHECK.due("behind 6", x.wordsThen(0, 6), 63);
        CHECK.due("behind 7", x.wordsThen(0, 7), 62);
    }

    private static void wholeNever() {
        CHECK.due("minds 5 NIGHTS", CHECK.told("p105;" + SIX_SPARKS).whole(0), -9);
        CHECK.due("minds 0 NIGHTS", CHECK.told("p100;" + SIX_SPARKS).whole(0), -9);
        CHECK.due("just too far", CHECK.told("p129;" + SIX_SPARKS).whole(0), -9);
        CHECK.due("just near enough", CHECK.told("p119;" + SIX_SPARKS).whole(0), 6);
        CHECK.due("GRANT is 1 too little", CHECK.told("p109;g005;" + SIX_SPARKS).whole(0), -9);
        CHECK.due("GRANT is enough", CHECK.told("p109;g006;" + SIX_SPARKS).whole(0), 6);
        CHECK.due("no ROCKETS", CHECK.told("p109;").whole(0), -9);
    }

    private static void wholeBehindAllNine() {
        RocketsAsk x = CHECK.told("p109;rs00;rs00;rs00;rs00;rs01;rs02;rs03;rs04;rs05;");
        CHECK.due("the ninth has the last WORD", x.whole(0), 9);
        CHECK.due("SPENT then", x.next(1), 9);
    }

    private static void firstOfSeveral() {
        RocketsAsk x = CHECK.told("p109;p109;p109;" + SIX_SPARKS);
        CHECK.due("three at once", x.whole(-1), 0);
        x.stands(0, 0);
        CHECK.due("two at once", x.whole(-1), 1);
        x.stands(1, 0);
        CHECK.due("one", x.whole(-1), 2);
        x = CHECK.told("p009;p109;" + SIX_SPARKS + SIX_SENT + SIX_BACK);
        x.stands(0, 10);
        CHECK.due("the one later", x.whole(0), 6);
        CHECK.due("the other now", x.whole(1), 0);
        CHECK.due("who is first", x.whole(-1), 1);
        x = CHECK.told("p109;" + SIX_SPARKS + SIX_SENT + SIX_BACK, "p109;");
        CHECK.due("the one now", x.whole(0), 0);
        CHECK.due("the other later", x.whole(1), 6);
        CHECK.due("who is first", x.whole(-1), 0);
        CHECK.due("the fifth", CHECK.told("p009;p009;p009;p009;p109;" + SIX_SPARKS).whole(-1), 4);
    }

    private static void firstOfNone() {
        CHECK.due("no READERS", CHECK.told(SIX_SPARKS).whole(-1), -9);
        CHECK.due("none ever has it", CHECK.told("p009;p105;" + SIX_SPARKS).whole(-1), -9);
        CHECK.due("none of five", CHECK.told("p009;p105;p129;p100;p199;" + SIX_SPARKS).whole(-1), -9);
        CHECK.due("nothing at all", new RocketsAsk().whole(-1), -9);
    }

    private static void nextOfNone() {
        CHECK.due("no ROCKETS", new RocketsAsk().next(0), -9);
        CHECK.due("THE BOX is empty", CHECK.told("rs00;s0;").next(0), -9);
        RocketsAsk x = CHECK.told("rl00;rg00;rr00;");
        int[] grants = {4, 5, 9, 10, 20, 21, 999};
        int[] due = {-9, 2, 2, 1, 1, 0, 0};
        for (int i = 0; i < grants.length; i++) {
            x.grant(grants[i]);
            CHECK.due("NEXT by " + grants[i], x.next(0), due[i]);
        }
    }

    private static void spentAtOnceAndLate() {
        CHECK.due("no ROCKETS", new RocketsAsk().next(1), 0);
        CHECK.due("THE BOX is empty", CHECK.told("rs00;s0;").next(1), 0);
        CHECK.due("one", CHECK.told("rs00;").next(1), 1);
        CHECK.due("nine", CHECK.told("rr00;".repeat(9)).next(1), 9);
        RocketsAsk x = CHECK.told("rr00;rr00;rr00;");
        int[] grants = {0, 4, 5, 9, 10, 14, 15, 999};
        int[] due = {0, 0, 1, 1, 2, 2, 3, 3};
        for (int i = 0; i < grants.length; i++) {
            x.grant(grants[i]);
            CHECK.due("SPENT by " + grants[i], x.next(1), due[i]);
        }
    }

    private static void fewestOfSeveral() {
        CHECK.due("twice the first", CHECK.told("p109;rs00;" + SIX_SPARKS).fewest(0, 0), 125);
        CHECK.due("twice the last", CHECK.told("p109;" + SIX_SPARKS + "rs05;").fewest(0, 0), 63);
        CHECK.due("the least is too far", CHECK.told("p129;rs00;rg00;rg01;rg02;rg03;rg04;rg05;rg05;").fewest(0, 0), 126);
        RocketsAsk x = CHECK.told("p109;rs00;rs01;rs02;" + SIX_SPARKS);
        CHECK.due("of nine", x.fewest(0, 0), 7 + 64 + 128 + 256);
        x.sends(2);
        CHECK.due("he has one of them", x.fewest(0, 0), 3 + 64 + 128 + 256);
    }

    private static void fewestOfNone() {
        RocketsAsk x = CHECK.told("p109;p100;p129;p119;" + SIX_SPARKS);
        CHECK.due("all of them", x.fewest(0, 0), 63);
        CHECK.due("minds nothing", x.fewest(1, 0), -9);
        CHECK.due("minds nothing", x.fewest(1, 1), -9);
        CHECK.due("too far", x.fewest(2, 0), -9);
        CHECK.due("too far", x.fewest(2, 1), -9);
        CHECK.due("just near enough", x.fewest(3, 0), 63);
        x.stands(0, 0);
        x.sends(5);
        CHECK.due("out of THE BOX", x.fewest(0, 0), -9);
        x.stands(0, 10);
        CHECK.due("out of THE BOX and unread", x.fewest(0, 0), -9);
        CHECK.due("out of THE BOX and unread", x.fewest(0, 1), -9);
        x.boxes(5);
        CHECK.due("in THE BOX again", x.fewest(0, 0), 63);
        CHECK.due("no ROCKETS", CHECK.told("p109;").fewest(0, 0), -9);
        x = CHECK.told("p109;" + SIX_SPARKS + SIX_SENT);
        CHECK.due("he has it: none", x.fewest(0, 0), 0);
        CHECK.due("he has it: for nothing", x.fewest(0, 1), 0);
    }

    private static void fewestWithoutGrant() {
        RocketsAsk x = CHECK.told("p101;g000;rl00;rl01;rl02;rl03;rl04;rl05;");
        CHECK.due("FEWEST", x.fewest(0, 0), 63);
        CHECK.due("CHEAPEST", x.fewest(0, 1), 126);
    }

    private static void cheapestOfAny() {
        RocketsAsk x = CHECK.told("p109;rl00;rr00;rs00;rl01;rr02;rs03;rs04;rs05;");
        CHECK.due("the least bits", x.fewest(0, 0), 249);
        CHECK.due("the least cost", x.fewest(0, 1), 1 + 21 + 5 + 1 + 1 + 1);
        x.stands(0, 12);
        x.turn(5, 0, 0);
        x.turn(6, 0, 0);
        x.turn(7, 0, 0);
        CHECK.due("the spark is too far", x.fewest(0, 1), 5 + 21 + 4 * 5);
    }

    private static void windBestOfSeveral() {
        RocketsAsk x = CHECK.told("p069;p129;" + SIX_SPARKS);
        CHECK.due("0 .. 2 and 6 .. 8 are alike", x.windBest(6, 0), 0);
        CHECK.due("how many", x.windBest(6, 1), 1);
        Check.tell(x, "p139;");
        CHECK.due("two READERS by 7 and 8", x.windBest(6, 0), 7);
        CHECK.due("how many", x.windBest(6, 1), 2);
        CHECK.due("nobody by any", CHECK.told("p199;" + SIX_SPARKS).windBest(6, 0), 0);
        CHECK.due("nobody by any", CHECK.told("p199;" + SIX_SPARKS).windBest(6, 1), 0);
        x = CHECK.told("p109;".repeat(5) + SIX_SPARKS + SIX_SENT);
        CHECK.due("five by any", x.windBest(30, 0), 0);
        CHECK.due("five by any", x.windBest(30, 1), 5);
        CHECK.due("no READERS", new RocketsAsk().windBest(30, 0), 0);
        CHECK.due("no READERS", new RocketsAsk().windBest(30, 1), 0);
    }

    private static void windBestAtTheEnds() {
        CHECK.due("the greatest WIND", CHECK.told("p159;" + SIX_SPARKS).windBest(6, 0), 9);
        CHECK.due("the greatest WIND", CHECK.told("p159;" + SIX_SPARKS).windBest(6, 1), 1);
        CHECK.due("beyond it", CHECK.told("p169;" + SIX_SPARKS).windBest(6, 1), 0);
        RocketsAsk x = CHECK.told("w5;p049;" + SIX_SPARKS);
        CHECK.due("the least WIND", x.windBest(6, 0), 0);
        CHECK.due("the least WIND", x.windBest(6, 1), 1);
        x.stands(0, 3);
        CHECK.due("beyond it", x.windBest(6, 1), 0);
    }

    private static void windBestBehind0To30() {
        RocketsAsk x = CHECK.told("p136;" + SIX_SPARKS);
        CHECK.due("behind 5", x.windBest(5, 1), 0);
        CHECK.due("behind 6", x.windBest(6, 1), 1);
        CHECK.due("behind 6", x.windBest(6, 0), 7);
        CHECK.due("behind 7", x.windBest(7, 1), 0);
        CHECK.due("behind 30", x.windBest(30, 1), 0);
        x = CHECK.told("p139;p109;" + SIX_SPARKS);
        CHECK.due("behind 30 by the first", x.windBest(30, 0), 4);
        x = CHECK.told("p109;" + SIX_SPARKS + SIX_SENT);
        CHECK.due("behind 0", x.windBest(0, 1), 1);
        CHECK.due("behind 0", x.windBest(0, 0), 0);
    }

    private static void moveOfSeveral() {
        RocketsAsk x = CHECK.told("p199;" + SIX_SPARKS);
        CHECK.due("9, 10 and 11 are alike", x.move(0, 6, 0), 9);
        CHECK.due("how many", x.move(0, 6, 1), 6);
        x.wind(0);
        CHECK.due("by WIND 0", x.move(0, 6, 0), 4);
        x.wind(9);
        CHECK.due("by WIND 9", x.move(0, 6, 0), 13);
        x = CHECK.told("p109;w0;rd00;rd01;");
        CHECK.due("the least PLACE", x.move(0, 2, 0), 0);
        CHECK.due("how many", x.move(0, 2, 1), 2);
        x.wind(9);
        CHECK.due("up to the greatest", x.move(0, 2, 0), 14);
        x = CHECK.told("p100;" + SIX_SPARKS);
        CHECK.due("minds nothing anywhere", x.move(0, 6, 0), 0);
        CHECK.due("minds nothing anywhere", x.move(0, 6, 1), 0);
        x = CHECK.told("p109;rs00;rg01;rr02;w7;");
        CHECK.due("where all three are read", x.move(0, 3, 0), 11);
        CHECK.due("all three", x.move(0, 3, 1), 3);
        CHECK.due("the other READER is nobody", x.reader(1, 0), -1);
    }

    private static void moveBehind0To30() {
        RocketsAsk x = CHECK.told("p002;p109;" + SIX_SPARKS + "s0;s1;");
        CHECK.due("behind 0 what he has", x.move(1, 0, 1), 2);
        CHECK.due("behind 0 anywhere", x.move(1, 0, 0), 0);
        CHECK.due("behind 1", x.move(0, 1, 1), 1);
        CHECK.due("behind 1", x.move(0, 1, 0), 9);
        CHECK.due("behind 2", x.move(0, 2, 1), 2);
        CHECK.due("behind 5", x.move(0, 5, 1), 1);
        CHECK.due("behind 6 forgotten", x.move(0, 6, 1), 0);
        CHECK.due("behind 30 forgotten", x.move(0, 30, 0), 0);
        CHECK.due("behind 30 for ever", x.move(1, 30, 1), 6);
    }

    private static void forgoMoreThanElse() {
        RocketsAsk x = CHECK.told("p109;rr00;rr01;g005;");
        CHECK.due("one for the other is no more", x.forgo(1), -9);
        x = CHECK.told("p109;p129;rs00;rr01;g005;");
        CHECK.due("two READERS for one are more", x.forgo(1), 0);
        x.grant(6);
        CHECK.due("behind 1 NIGHT", x.forgo(1), 0);
        CHECK.due("behind 2 both go up", x.forgo(2), -9);
        x = CHECK.told("p109;rs00;rs00;rs01;s0;");
        CHECK.due("what he has already", x.forgo(1), 1);
        CHECK.due("nothing is paid for it", CHECK.told("p109;rs00;rr00;rr01;s0;g005;").forgo(1), 1);
    }

    private static void forgoOfSeveral() {
        // without 1 or without 2 the last one goes up in time
        RocketsAsk x = CHECK.told("p109;rs00;rs00;rs00;rs01;s0;");
        CHECK.due("the least of two", x.forgo(2), 1);
        CHECK.due("none helps in 1 NIGHT", x.forgo(1), -9);
        CHECK.due("all are up in 3 NIGHTS", x.forgo(3), -9);
        // read by 2, by 1 and by 3: without 0 there is 1 more, without 1 there are 2
        x = CHECK.told("p109;p129;p139;rr00;rs01;rr22;");
        CHECK.due("the best is not the least", x.forgo(2), 1);
        x = CHECK.told("p109;p129;p139;rs00;rr00;rg01;s0;g015;");
        x.boxes(0);
        x.turn(1, 1, 0);
        CHECK.due("one alone does not do", x.forgo(1), -9);
    }

    private static void forgoOfNone() {
        CHECK.due("no ROCKETS", CHECK.told("p109;").forgo(1), -9);
        CHECK.due("no READERS", CHECK.told("rs00;rs01;").forgo(1), -9);
        CHECK.due("THE BOX is empty", CHECK.told("p109;rs00;s0;").forgo(1), -9);
    }

    private static void forgoBehind1To30() {
        RocketsAsk x = CHECK.told("p102;p129;rs00;rg01;g010;");
        CHECK.due("behind 1", x.forgo(1), 0);
        CHECK.due("behind 2", x.forgo(2), 0);
        CHECK.due("behind 30 the one who keeps it", x.forgo(30), 0);
        x = CHECK.told("p102;rs00;rg01;p121;g010;");
        CHECK.due("behind 1 both have it", x.forgo(1), 0);
        CHECK.due("behind 2 he alone", x.forgo(2), -9);
        CHECK.due("behind 30 nobody", x.forgo(30), -9);
    }

    private static void firstUpMoreThanElse() {
        RocketsAsk x = CHECK.told("p109;rs00;rs01;");
        CHECK.due("one more in 1 NIGHT", x.firstUp(1), 0);
        CHECK.due("no more in 2", x.firstUp(2), -9);
        x = CHECK.told("p109;rs00;rr01;g005;");
        CHECK.due("one for the other is no more", x.firstUp(1), -9);
        Check.tell(x, "p129;");
        CHECK.due("two READERS for one are more", x.firstUp(1), 1);
        CHECK.due("and in 30 NIGHTS", x.firstUp(30), 1);
        x = CHECK.told("p101;rs00;");
        CHECK.due("forgotten behind 1 NIGHT", x.firstUp(1), -9);
    }

    private static void firstUpOfSeveral() {
        CHECK.due("the least of three", CHECK.told("p109;rs00;rs01;rs02;").firstUp(1), 0);
        CHECK.due("one that he has makes way", CHECK.told("p109;rs00;rs00;rs01;rs02;s0;").firstUp(2), 1);
        CHECK.due("the least that is read", CHECK.told("p129;rs00;rs01;rr02;rr03;").firstUp(1), 2);
        CHECK.due("the most", CHECK.told("p109;p129;rs00;rs01;rr02;rr03;").firstUp(1), 2);
    }

    private static void firstUpGrantMustBeEnough() {
        RocketsAsk x = CHECK.told("p109;p129;rs00;rg01;");
        x.grant(9);
        CHECK.due("1 too little", x.firstUp(1), -9);
        x.grant(10);
        CHECK.due("just enough", x.firstUp(1), 1);
        x.grant(11);
        CHECK.due("enough for both", x.firstUp(1), 0);
        CHECK.due("enough for both", x.firstUp(2), -9);
        CHECK.due("no ROCKETS", CHECK.told("p109;").firstUp(1), -9);
        CHECK.due("no READERS", CHECK.told("rs00;").firstUp(1), -9);
        CHECK.due("SENT already", CHECK.told("rs00;s0;p109;").firstUp(1), -9);
    }

    private static void firstUpBehind1To30() {
        RocketsAsk x = CHECK.told("p109;p121;rs00;rg01;g010;");
        CHECK.due("behind 1 the gold one is forgotten by one", x.firstUp(1), -9);
        x = CHECK.told("p109;p122;rs00;rg01;g010;");
        CHECK.due("behind 1", x.firstUp(1), 1);
        CHECK.due("behind 2", x.firstUp(2), -9);
        CHECK.due("behind 30", x.firstUp(30), -9);
    }

    private static void longestOfSeveral() {
        CHECK.due("no ROCKETS", new RocketsAsk().longest(0), -9);
        CHECK.due("no DARK at all", CHECK.told("rs90;rs90;").longest(0), 0);
        CHECK.due("QUIET 9 and ROCKET 9", CHECK.told("rs00;rq00;rr80;").longest(0), 1);
        CHECK.due("ROCKET 9 and QUIET 9", CHECK.told("rs00;rr80;rq90;").longest(0), 1);
        CHECK.due("QUIET 9 and ROCKET 10", CHECK.told("rq90;rr90;").longest(0), 1);
        CHECK.due("the longest before others", CHECK.told("rr20;rr90;rr50;rs00;").longest(0), 1);
        CHECK.due("three of 20", CHECK.told("rr90;rg90;rd90;rl90;").longest(0), 1);
        CHECK.due("SENT or not", CHECK.told("rr50;rr90;s1;").longest(0), 1);
    }

    private static void costOfAllInTheBox() {
        CHECK.due("no ROCKETS", new RocketsAsk().longest(1), 0);
        CHECK.due("THE BOX is empty", CHECK.told("rs00;rl00;s0;s1;").longest(1), 0);
        CHECK.due("nine of the dearest", CHECK.told("rl00;".repeat(9)).longest(1), 189);
        CHECK.due("all but the SENT", CHECK.told("rs00;rr00;rg00;s1;").longest(1), 11);
        CHECK.due("each kind", CHECK.told("rr00;rs00;rg00;rd00;rq00;rl00;").longest(1), 51);
    }

    private static void seenOfSeveral() {
        RocketsAsk x = CHECK.told("rs00;rr00;rr90;rl90;p109;p129;p169;p009;p199;");
        CHECK.due("most", x.seen(0), 5);
        CHECK.due("which", x.seen(1), 3);
        x.turn(0, 5, 9);
        CHECK.due("the first of all", x.seen(1), 0);
        x.turn(0, 1, 0);
        x.turn(3, 0, 0);
        CHECK.due("the most before fewer", x.seen(0), 3);
        CHECK.due("the most before fewer", x.seen(1), 2);
        x.turn(3, 0, 9);
        CHECK.due("two of 3", x.seen(0), 3);
        CHECK.due("the least of two", x.seen(1), 2);
        x.sends(2);
        CHECK.due("SENT or not", x.seen(1), 2);
        x.wind(0);
        CHECK.due("by WIND as now", x.seen(0), 2);
        CHECK.due("by WIND as now", x.seen(1), 2);
    }

    private static void seenOfNone() {
        CHECK.due("no ROCKETS", CHECK.told("p109;").seen(0), 0);
        CHECK.due("no ROCKETS", CHECK.told("p109;").seen(1), -9);
        CHECK.due("read by nobody", CHECK.told("p009;rs00;rs01;").seen(0), 0);
        CHECK.due("the least of those", CHECK.told("p009;rs00;rs01;").seen(1), 0);
        CHECK.due("whoever minds nothing reads", CHECK.told("p100;rs00;").seen(0), 1);
    }

    private static void lacksAndKnown() {
        CHECK.due("LACKS without ROCKETS", CHECK.told("p109;").words(0), 63);
        CHECK.due("LACKS of all six", CHECK.told(SIX_SPARKS).words(0), 0);
        CHECK.due("LACKS of all six, SENT", CHECK.told(SIX_SPARKS + SIX_SENT).words(0), 0);
        CHECK.due("LACKS the last", CHECK.told("rs00;rs01;rs02;rs03;rs04;").words(0), 32);
        CHECK.due("KNOWN of nobody", CHECK.told(SIX_SPARKS).words(1), 63);
        CHECK.due("KNOWN of one who has none", CHECK.told("p109;" + SIX_SPARKS).words(1), 0);
        CHECK.due("KNOWN of one who has all", CHECK.told("p109;" + SIX_SPARKS + SIX_SENT).words(1), 63);
        CHECK.due("KNOWN of five", CHECK.told("p109;p119;p099;p109;p109;" + SIX_SPARKS + SIX_SENT).words(1), 63);
        CHECK.due("the fifth has none", CHECK.told("p109;p109;p109;p109;p009;" + SIX_SPARKS + SIX_SENT).words(1), 0);
    }

    private static void rareOfSeveral() {
        CHECK.due("nobody has any", CHECK.told(SIX_SPARKS).words(2), 0);
        CHECK.due("all have all", CHECK.told("p109;" + SIX_SPARKS + SIX_SENT).words(2), 0);
        CHECK.due("0 is had", CHECK.told("p109;rs00;s0;").words(2), 1);
        CHECK.due("only 5 is not", CHECK.told("p109;" + SIX_SPARKS + "s0;s1;s2;s3;s4;").words(2), 5);
        CHECK.due("4 and 5 are not", CHECK.told("p109;" + SIX_SPARKS + "s0;s1;s2;s3;").words(2), 4);
        CHECK.due("five of five have 5", CHECK.told("p109;p109;p109;p109;p129;rg00;rg01;rg02;rg03;rg04;rr05;", SIX_SENT)
            .words(2), 0);
        CHECK.due("four of five have 5", CHECK.told("p109;p109;p109;p109;p139;rg00;rg01;rg02;rg03;rg04;rr05;", SIX_SENT)
            .words(2), 5);
        CHECK.due("fewer have 3", CHECK.told("p109;p129;rg00;rg01;rg02;rs03;rg04;rg05;" + SIX_SENT).words(2), 3);
    }

    private static void nearOfSeveral() {
        CHECK.due("no READERS", CHECK.told("rs00;").near(), -9);
        CHECK.due("PLACE 0 is 10 STEPS off", CHECK.told("p000;").near(), 0);
        CHECK.due("PLACE 19 is 9", CHECK.told("p000;p190;").near(), 1);
        CHECK.due("1 and 19 are alike", CHECK.told("p010;p190;").near(), 0);
        CHECK.due("19 and 1 are alike", CHECK.told("p190;p010;").near(), 0);
        CHECK.due("the nearest before others", CHECK.told("p050;p110;p190;p120;").near(), 1);
        CHECK.due("at the mountain", CHECK.told("p090;p110;p100;p100;").near(), 2);
        CHECK.due("the fifth", CHECK.told("p000;p010;p190;p180;p090;").near(), 4);
    }

    private static void aloneOfNoneAndAll() {
        CHECK.due("no READERS", CHECK.told("rs00;").alone(), 0);
        CHECK.due("none has any", CHECK.told("p109;p109;").alone(), 0);
        CHECK.due("one of one", CHECK.told("p109;rs00;s0;").alone(), 1);
        CHECK.due("two have the same", CHECK.told("p109;p109;rs00;s0;").alone(), 0);
        RocketsAsk x = CHECK.told("p009;p009;p009;p009;p009;rs00;rs01;rs02;rs03;rs04;");
        for (int reader = 0; reader < 5; reader++) {
            x.stands(reader, 10);
            x.sends(reader);
            x.stands(reader, 0);
        }
        CHECK.due("each has one alone", x.alone(), 31);
        x.boxes(4);
        x.stands(0, 10);
        x.sends(4);
        CHECK.due("the last has none alone", x.alone(), 15);
    }

    /** READERS who have the WORDS of these digits, for ever. */
    private static RocketsAsk who(String... words) {
        RocketsAsk x = CHECK.told("p009;".repeat(words.length) + SIX_SPARKS);
        for (int reader = 0; reader < words.length; reader++) {
            x.stands(reader, 10);
            for (char c : words[reader].toCharArray()) {
                x.sends(c - '0');
                x.boxes(c - '0');
            }
            x.stands(reader, 0);
        }
        return x;
    }

    private static void tellOfSeveral() {
        CHECK.due("either to the other", who("012", "345").tell(), 1);
        CHECK.due("the first of three", who("012", "345", "345").tell(), 1);
        CHECK.due("0 to 1 does not do", who("012", "012", "345").tell(), 2);
        CHECK.due("0 helps nobody", who("", "01234", "5", "5").tell(), 12);
        CHECK.due("the last two", who("0", "1", "2", "0123", "45").tell(), 34);
        CHECK.due("the last has all", who("", "", "", "", "012345").tell(), 40);
        CHECK.due("the first has all", who("012345", "", "").tell(), 1);
        CHECK.due("the second has all", who("", "012345", "").tell(), 10);
    }

    private static void tellOfNone() {
        CHECK.due("no READERS", CHECK.told(SIX_SPARKS).tell(), -9);
        CHECK.due("one alone", who("01234").tell(), -9);
        CHECK.due("one alone has all", who("012345").tell(), -9);
        CHECK.due("5 lacks", who("01234", "0123", "34").tell(), -9);
        CHECK.due("none of five", who("0", "1", "2", "3", "4").tell(), -9);
        CHECK.due("no more than now", who("012345", "012345").tell(), -9);
        CHECK.due("what he forgot is not told", CHECK.told("p109;p101;" + SIX_SPARKS + SIX_SENT).tell(), -9);
        RocketsAsk x = CHECK.told("p101;p009;" + SIX_SPARKS + SIX_SENT);
        CHECK.due("for as long as he has them", x.tell(), 1);
        x.nights(1);
        CHECK.due("he has them no more", x.tell(), -9);
    }
}
