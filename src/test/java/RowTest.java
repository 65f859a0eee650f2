/** Promises 32 to 36: what a rocket said, the row, judging it, and seasons by lot. */
public final class RowTest {
    private static final Check CHECK = new Check("RowTest");
    private static final String SIX_SPARKS = "rs00;rs01;rs02;rs03;rs04;rs05;";

    public static void main(String[] args) {
        whatSaid();
        whatKind();
        whatSaidRefused();
        row();
        judge();
        clear();
        lots();
        lotsOfTheQuestion();
        lotsRefused();
        CHECK.end();
    }

    private static void rows(RocketsAsk x, int... row) {
        x.clear();
        for (int v : row) {
            x.row(v);
        }
    }

    private static void whatSaid() {
        RocketsAsk x = CHECK.told("p109;p139;p100;rs00;rr13;s0;");
        String before = Check.look(x);
        CHECK.due("an empty row", x.whatSaid(1, 0), 63);
        CHECK.same("only in mind", Check.look(x), before);
        rows(x, 2);
        CHECK.due("one word more", x.whatSaid(1, 0), 62);
        CHECK.due("the row stays", x.count(6), 1);
        rows(x, 1);
        CHECK.due("the word that he has", x.whatSaid(1, 0), 1);
        rows(x, 0);
        CHECK.due("can not be", x.whatSaid(1, 0), 0);
        rows(x, 2, 0, 0);
        CHECK.due("two who have none", x.whatSaid(1, 0), 62);
        rows(x, 2, 1);
        CHECK.due("he is too far", x.whatSaid(1, 0), 0);
        rows(x, 2, 0, 1);
        CHECK.due("he minds nothing", x.whatSaid(1, 0), 0);
        rows(x, 2, 0, 0, 0);
        CHECK.due("a reader who is not", x.whatSaid(1, 0), 0);
        rows(x, 1);
        CHECK.due("one that is sent", x.whatSaid(0, 0), 1);
        x.grant(0);
        rows(x, 2);
        CHECK.due("the grant is no matter", x.whatSaid(1, 0), 62);
        CHECK.due("one that is sent", x.whatSaid(0, 0), 62);
        x.wind(0);
        CHECK.due("by the wind", x.whatSaid(1, 0), 0);
        rows(x, 1);
        CHECK.due("by the wind", x.whatSaid(1, 0), 63);
        rows(x, 99);
        CHECK.due("far too many", x.whatSaid(1, 0), 0);
    }

    private static void whatKind() {
        RocketsAsk x = CHECK.told("p139;rr03;p101;");
        CHECK.due("an empty row", x.whatSaid(0, 1), 63);
        rows(x, 1);
        CHECK.due("far ones", x.whatSaid(0, 1), 4 + 8 + 32);
        rows(x, 0);
        CHECK.due("near ones", x.whatSaid(0, 1), 1 + 2 + 16);
        rows(x, 0, 1);
        CHECK.due("near ones", x.whatSaid(0, 1), 1 + 2 + 16);
        rows(x, 0, 0);
        CHECK.due("all are read", x.whatSaid(0, 1), 0);
        x.wind(7);
        rows(x, 1, 1);
        CHECK.due("by the wind", x.whatSaid(0, 1), 1 + 4 + 32);
        rows(x, 1, 0);
        CHECK.due("by the wind", x.whatSaid(0, 1), 2 + 8 + 16);
        CHECK.due("the kind stays", x.rocket(0, 0), 0);
        CHECK.due("the word stays", x.rocket(0, 2), 3);
        CHECK.due("nothing is read", x.count(5), 0);
    }

    private static void whatSaidRefused() {
        RocketsAsk x = CHECK.told("p139;rr03;");
        CHECK.due("whatSaid(1, 2)", x.whatSaid(1, 2), -1);
        CHECK.due("whatSaid(-1, 0)", x.whatSaid(-1, 0), -1);
        CHECK.due("whatSaid(0, 2)", x.whatSaid(0, 2), -2);
        CHECK.due("whatSaid(0, -1)", x.whatSaid(0, -1), -2);
        CHECK.same("refusals", Check.refusals(x), "2 2 0 0 0 0 ");
    }

    private static void row() {
        RocketsAsk x = new RocketsAsk();
        CHECK.due("row(-1)", x.row(-1), -4);
        CHECK.due("row(100)", x.row(100), -6);
        for (int i = 1; i <= 16; i++) {
            CHECK.due("row", x.row(i % 2 == 0 ? 0 : 99), i);
        }
        CHECK.due("row(0)", x.row(0), -6);
        CHECK.due("row(-1)", x.row(-1), -4);
        CHECK.due("row(100)", x.row(100), -6);
        CHECK.due("count(6)", x.count(6), 16);
        CHECK.same("refusals", Check.refusals(x), "0 0 0 2 0 3 ");
    }

    private static void judges(RocketsAsk x, int want, int... row) {
        rows(x, row);
        CHECK.due("judge()", x.judge(), want);
        CHECK.due("the row has none then", x.count(6), 0);
    }

    private static void judge() {
        RocketsAsk x = CHECK.told("rr00;rg00;p109;g020;");
        String before = Check.look(x);
        judges(x, -9);
        judges(x, -9, 20);
        judges(x, 0, 19);
        judges(x, 1, 20, 20);
        judges(x, -9, 20, 15, 5, 5);
        judges(x, 2, 20, 15, 6, 5);
        judges(x, 2, 20, 15, 6, 6);
        judges(x, 3, 20, 15, 5, 0);
        judges(x, -9, 20, 15, 5, 5, 5, 5, 5, 5, 5, 5, 5, 5, 5, 5, 5, 5);
        judges(x, 15, 20, 15, 5, 5, 5, 5, 5, 5, 5, 5, 5, 5, 5, 5, 5, 99);
        CHECK.same("only in mind", Check.look(x), before);
        x.grant(104);
        judges(x, -9, 99, 99, 89);
        judges(x, 2, 99, 99, 99);
        x.grant(99);
        judges(x, -9, 99, 94);
        CHECK.same("refusals", Check.refusals(x), "0 0 0 0 0 0 ");
    }

    private static void clear() {
        RocketsAsk x = new RocketsAsk();
        CHECK.due("clear()", x.clear(), 0);
        x.row(1);
        x.row(2);
        x.letter(65);
        CHECK.due("clear()", x.clear(), 2);
        CHECK.due("count(6)", x.count(6), 0);
        CHECK.due("count(7)", x.count(7), 1);
        CHECK.due("clear()", x.clear(), 0);
        CHECK.due("row(3)", x.row(3), 1);
    }

    /** By seed 7 the winds ahead of each season's first night are 7, 4, 2, 9, 1, 0, 4, 1, 2, 5, .. */
    private static void lots() {
        RocketsAsk x = CHECK.told("p109;rs00;");
        String before = Check.look(x);
        CHECK.due("lots(1, 7, 1)", x.lots(1, 7, 1), 0);
        CHECK.due("lots(2, 7, 1)", x.lots(2, 7, 1), 1);
        CHECK.due("lots(6, 7, 1)", x.lots(6, 7, 1), 1);
        CHECK.due("lots(7, 7, 1)", x.lots(7, 7, 1), 2);
        CHECK.due("lots(10, 7, 1)", x.lots(10, 7, 1), 3);
        CHECK.due("lots(20, 7, 1)", x.lots(20, 7, 1), 8);
        CHECK.due("lots(20, -1, 1)", x.lots(20, -1, 1), 6);
        CHECK.due("lots(20, max, 1)", x.lots(20, Integer.MAX_VALUE, 1), 6);
        CHECK.due("lots(20, 0, 1)", x.lots(20, 0, 1), 6);
        CHECK.due("lots(20, min, 1)", x.lots(20, Integer.MIN_VALUE, 1), 6);
        CHECK.due("lots(20, 7, 0)", x.lots(20, 7, 0), 0);
        CHECK.same("only in mind", Check.look(x), before);
        // long rockets of figure 9 are read at 10 by every wind; the last two of eight are minded
        x = CHECK.told("g999;p102;rl90;rl91;rl92;rl93;rl94;rl95;rl92;rl93;rl94;");
        CHECK.due("eight nights", x.lots(1, 0, 1), 2);
        CHECK.due("eight nights", x.lots(20, 5, 1), 40);
    }

    /** Rockets of figure 4 are read at 10 but by wind 0; by seed 7 it blows 7 5 6 0 7 7, 4 5 2 1 2 1, 2 4 .. */
    private static void lotsOfTheQuestion() {
        RocketsAsk x = CHECK.told("p109;rr40;rr41;rr42;rr43;rr44;rr45;");
        CHECK.due("lots(1, 7, 0)", x.lots(1, 7, 0), 0);
        CHECK.due("lots(2, 7, 0)", x.lots(2, 7, 0), 1);
        CHECK.due("lots(3, 7, 0)", x.lots(3, 7, 0), 2);
        CHECK.due("lots(1, 7, 1)", x.lots(1, 7, 1), 5);
        CHECK.due("lots(3, 7, 1)", x.lots(3, 7, 1), 17);
        CHECK.due("another reader", Check.tell(x, "p109;"), 1);
        CHECK.due("lots(3, 7, 0)", x.lots(3, 7, 0), 4);
        CHECK.due("lots(3, 7, 1)", x.lots(3, 7, 1), 34);
        x = CHECK.told("p109;" + SIX_SPARKS + "s0;s1;s2;s3;s4;s5;");
        CHECK.due("he has it", x.lots(20, 1, 0), 20);
        CHECK.due("he has it", x.lots(20, 1, 1), 120);
    }

    private static void lotsRefused() {
        RocketsAsk x = CHECK.told("p109;rs00;");
        CHECK.due("lots(0, 0, 2)", x.lots(0, 0, 2), -4);
        CHECK.due("lots(min, 0, 0)", x.lots(Integer.MIN_VALUE, 0, 0), -4);
        CHECK.due("lots(21, 0, 2)", x.lots(21, 0, 2), -6);
        CHECK.due("lots(20, 0, 2)", x.lots(20, 0, 2), -2);
        CHECK.due("lots(1, 0, -1)", x.lots(1, 0, -1), -2);
        CHECK.same("refusals", Check.refusals(x), "0 2 0 2 0 1 ");
    }
}
