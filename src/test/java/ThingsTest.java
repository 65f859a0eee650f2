/** Promises 4 to 13: rockets, readers, what they keep, and all that changes them. */
public final class ThingsTest {
    private static final Check CHECK = new Check("ThingsTest");
    private static final String KINDS = "rsgdql";

    public static void main(String[] args) {
        kinds();
        bursts();
        whoReads();
        rocketRefused();
        readers();
        keepsAndForgets();
        sends();
        sendsRefused();
        boxes();
        windAndGrant();
        stands();
        turn();
        nights();
        nightsRefused();
        CHECK.end();
    }

    private static void kinds() {
        int[] cost = {5, 1, 10, 11, 3, 21};
        int[][] reach = {{2, 2, 3, 3, 4, 4, 5, 5, 6, 6}, {1, 1, 1, 1, 2, 2, 2, 2, 3, 3},
            {5, 5, 6, 6, 7, 7, 8, 8, 9, 9}, {5, 5, 6, 6, 7, 7, 8, 8, 9, 9},
            {1, 1, 1, 1, 2, 2, 2, 2, 3, 3}, {10, 10, 12, 12, 14, 14, 16, 16, 18, 18}};
        for (int kind = 0; kind < 6; kind++) {
            for (int figure = 0; figure <= 9; figure++) {
                RocketsAsk x = CHECK.told("r" + KINDS.charAt(kind) + figure + "4;");
                int plain = figure + 1;
                int[] dark = {plain, 0, 2 * plain, 2 * plain, 9, 2 * plain};
                CHECK.due("rocket(0, 0)", x.rocket(0, 0), kind);
                CHECK.due("rocket(0, 1)", x.rocket(0, 1), figure);
                CHECK.due("rocket(0, 2)", x.rocket(0, 2), 4);
                CHECK.due("rocket(0, 3)", x.rocket(0, 3), 0);
                CHECK.due("cost of kind " + kind, x.rocket(0, 4), cost[kind]);
                CHECK.due("reach of kind " + kind + " " + figure, x.rocket(0, 5), reach[kind][figure]);
                CHECK.due("dark of kind " + kind + " " + figure, x.rocket(0, 6), dark[kind]);
                CHECK.due("rocket(0, 7)", x.rocket(0, 7), 10);
                CHECK.due("rocket(0, 8)", x.rocket(0, 8), 0);
            }
        }
    }

    private static void bursts() {
        int[] plain = {5, 6, 7, 8, 9, 10, 11, 12, 13, 14};
        int[] drifts = {0, 0, 1, 4, 7, 10, 13, 16, 19, 19};
        RocketsAsk x = CHECK.told("rr00;rs00;rg00;rd00;rq00;rl00;");
        for (int wind = 0; wind <= 9; wind++) {
            x.wind(wind);
            for (int kind = 0; kind < 6; kind++) {
                int want = kind == 3 || kind == 5 ? drifts[wind] : plain[wind];
                CHECK.due("kind " + kind + " by wind " + wind, x.rocket(kind, 7), want);
            }
        }
    }

    private static void whoReads() {
        RocketsAsk x = CHECK.told("rr00;rs00;rl00;p080;p121;p079;p139;p119;");
        CHECK.due("just near enough", x.rocket(0, 8), 1 + 2 + 16);
        CHECK.due("a spark", x.rocket(1, 8), 16);
        CHECK.due("a long one", x.rocket(2, 8), 31);
        x.wind(4);
        CHECK.due("a step down", x.rocket(0, 8), 1 + 4 + 16);
        x.wind(0);
        CHECK.due("far down", x.rocket(2, 8), 1 + 4);
        x.sends(0);
        CHECK.due("rocket(0, 3)", x.rocket(0, 3), 1);
        CHECK.due("one that is sent", x.rocket(0, 8), 4);
    }

    private static void rocketRefused() {
        RocketsAsk x = CHECK.told("rr00;rr00;");
        CHECK.due("rocket(-1, 0)", x.rocket(-1, 0), -1);
        CHECK.due("rocket(2, 0)", x.rocket(2, 0), -1);
        CHECK.due("rocket(2, 9)", x.rocket(2, 9), -1);
        CHECK.due("rocket(max, 0)", x.rocket(Integer.MAX_VALUE, 0), -1);
        CHECK.due("rocket(1, 9)", x.rocket(1, 9), -2);
        CHECK.due("rocket(1, -1)", x.rocket(1, -1), -2);
        CHECK.same("refusals", Check.refusals(x), "4 2 0 0 0 0 ");
    }

    private static void readers() {
        RocketsAsk x = CHECK.told("p193;p050;rr95;rr90;s0;s1;");
        CHECK.due("reader(0, 0)", x.reader(0, 0), 19);
        CHECK.due("reader(0, 1)", x.reader(0, 1), 3);
        CHECK.due("reader(0, 2)", x.reader(0, 2), 0);
        CHECK.due("reader(1, 0)", x.reader(1, 0), 5);
        CHECK.due("reader(1, 1)", x.reader(1, 1), 0);
        CHECK.due("who minds nothing", x.reader(1, 2), 0);
        x = CHECK.told("p051;rr95;rr90;s0;s1;");
        CHECK.due("reader(0, 2)", x.reader(0, 2), 33);
        CHECK.due("reader(-1, 0)", x.reader(-1, 0), -1);
        CHECK.due("reader(1, 3)", x.reader(1, 3), -1);
        CHECK.due("reader(0, 3)", x.reader(0, 3), -2);
        CHECK.due("reader(0, -1)", x.reader(0, -1), -2);
        CHECK.same("refusals", Check.refusals(x), "2 2 0 0 0 0 ");
    }

    private static void keepsAndForgets() {
        RocketsAsk x = CHECK.told("p100;p101;p108;p109;rr02;g005;");
        x.sends(0);
        int[] due = {0, 1, 8, 99};
        for (int reader = 0; reader < 4; reader++) {
            for (int word = 0; word < 6; word++) {
                CHECK.due("keeps", x.keeps(reader, word), word == 2 ? due[reader] : 0);
            }
        }
        x.nights(1);
        CHECK.due("keeps(1, 2)", x.keeps(1, 2), 0);
        CHECK.due("keeps(2, 2)", x.keeps(2, 2), 7);
        CHECK.due("keeps(3, 2)", x.keeps(3, 2), 99);
        x.nights(7);
        CHECK.due("keeps(1, 2)", x.keeps(1, 2), 0);
        CHECK.due("keeps(2, 2)", x.keeps(2, 2), 0);
        x.nights(60);
        CHECK.due("keeps(2, 2)", x.keeps(2, 2), 0);
        CHECK.due("keeps(3, 2)", x.keeps(3, 2), 99);
        CHECK.due("keeps(4, 0)", x.keeps(4, 0), -1);
        CHECK.due("keeps(-1, 0)", x.keeps(-1, 0), -1);
        CHECK.due("keeps(0, 6)", x.keeps(0, 6), -1);
        CHECK.due("keeps(0, -1)", x.keeps(0, -1), -1);
        CHECK.due("keeps(4, 6)", x.keeps(4, 6), -1);
        CHECK.same("refusals", Check.refusals(x), "5 0 0 0 0 0 ");
    }

    private static void sends() {
        RocketsAsk x = CHECK.told("rr03;rg03;p104;p139;g016;");
        CHECK.due("sends(0)", x.sends(0), 11);
        CHECK.due("keeps(0, 3)", x.keeps(0, 3), 4);
        CHECK.due("keeps(1, 3)", x.keeps(1, 3), 0);
        CHECK.due("sends(1)", x.sends(1), 1);
        CHECK.due("keeps(0, 3)", x.keeps(0, 3), 4);
        CHECK.due("keeps(1, 3)", x.keeps(1, 3), 99);
        CHECK.due("count(4)", x.count(4), 3);
        CHECK.due("count(2)", x.count(2), 0);
        // read once more when some nights went by: the longer time counts
        x = CHECK.told("rs03;p104;s0;n02;b0;");
        CHECK.due("keeps(0, 3)", x.keeps(0, 3), 2);
        CHECK.due("sends(0)", x.sends(0), 98);
        CHECK.due("keeps(0, 3)", x.keeps(0, 3), 4);
        x = CHECK.told("rr00;g005;");
        CHECK.due("the last of it", x.sends(0), 0);
    }

    private static void sendsRefused() {
        RocketsAsk x = CHECK.told("rr03;rl03;p104;g020;");
        String before = Check.look(x);
        CHECK.due("sends(2)", x.sends(2), -1);
        CHECK.due("sends(-1)", x.sends(-1), -1);
        CHECK.due("sends(1)", x.sends(1), -3);
        CHECK.same("nothing changed", Check.look(x), before);
        x.sends(0);
        before = Check.look(x);
        CHECK.due("sends(0)", x.sends(0), -3);
        CHECK.same("nothing changed", Check.look(x), before);
        CHECK.same("refusals", Check.refusals(x), "2 0 2 0 0 0 ");
    }

    private static void boxes() {
        RocketsAsk x = CHECK.told("rs00;rs01;rs02;p104;s0;s2;");
        CHECK.due("boxes(2)", x.boxes(2), 2);
        CHECK.due("rocket(2, 3)", x.rocket(2, 3), 0);
        CHECK.due("count(4)", x.count(4), 1);
        CHECK.due("count(3)", x.count(3), 98);
        CHECK.due("he has it yet", x.reader(0, 2), 5);
        CHECK.due("boxes(2)", x.boxes(2), -3);
        CHECK.due("boxes(1)", x.boxes(1), -3);
        CHECK.due("boxes(3)", x.boxes(3), -1);
        CHECK.due("boxes(-1)", x.boxes(-1), -1);
        CHECK.due("boxes(0)", x.boxes(0), 3);
        CHECK.same("refusals", Check.refusals(x), "2 0 2 0 0 0 ");
    }

    private static void windAndGrant() {
        RocketsAsk x = new RocketsAsk();
        CHECK.due("wind(0)", x.wind(0), 5);
        CHECK.due("wind(9)", x.wind(9), 0);
        CHECK.due("wind(-1)", x.wind(-1), -4);
        CHECK.due("wind(10)", x.wind(10), -6);
        CHECK.due("wind(min)", x.wind(Integer.MIN_VALUE), -4);
        CHECK.due("wind(1)", x.wind(1), 9);
        CHECK.due("grant(0)", x.grant(0), 100);
        CHECK.due("count(3)", x.count(3), 0);
        CHECK.due("grant(999)", x.grant(999), 0);
        CHECK.due("grant(-1)", x.grant(-1), -4);
        CHECK.due("grant(1000)", x.grant(1000), -6);
        CHECK.due("grant(1)", x.grant(1), 999);
        CHECK.same("refusals", Check.refusals(x), "0 0 0 3 0 2 ");
    }

    private static void stands() {
        RocketsAsk x = CHECK.told("p051;p062;rr90;s0;");
        CHECK.due("stands(1, 19)", x.stands(1, 19), 6);
        CHECK.due("reader(1, 0)", x.reader(1, 0), 19);
        CHECK.due("his words stay", x.keeps(1, 0), 2);
        CHECK.due("stands(1, 0)", x.stands(1, 0), 19);
        CHECK.due("stands(1, 20)", x.stands(1, 20), -1);
        CHECK.due("stands(1, -1)", x.stands(1, -1), -1);
        CHECK.due("stands(2, 0)", x.stands(2, 0), -1);
        CHECK.due("stands(-1, 20)", x.stands(-1, 20), -1);
        CHECK.due("reader(1, 0)", x.reader(1, 0), 0);
        CHECK.due("reader(0, 0)", x.reader(0, 0), 5);
        CHECK.same("refusals", Check.refusals(x), "4 0 0 0 0 0 ");
    }

    private static void turn() {
        RocketsAsk x = CHECK.told("rd71;rr22;s0;");
        CHECK.due("turn(0, 4, 9)", x.turn(0, 4, 9), 37);
        CHECK.due("rocket(0, 0)", x.rocket(0, 0), 4);
        CHECK.due("rocket(0, 1)", x.rocket(0, 1), 9);
        CHECK.due("rocket(0, 2)", x.rocket(0, 2), 1);
        CHECK.due("rocket(0, 3)", x.rocket(0, 3), 1);
        CHECK.due("rocket(0, 4)", x.rocket(0, 4), 3);
        CHECK.due("turn(1, 5, 0)", x.turn(1, 5, 0), 2);
        CHECK.due("turn(1, 0, 9)", x.turn(1, 0, 9), 50);
        String before = Check.look(x);
        CHECK.due("turn(2, 6, 10)", x.turn(2, 6, 10), -1);
        CHECK.due("turn(-1, 0, 0)", x.turn(-1, 0, 0), -1);
        CHECK.due("turn(1, 6, 10)", x.turn(1, 6, 10), -2);
        CHECK.due("turn(1, -1, -1)", x.turn(1, -1, -1), -2);
        CHECK.due("turn(1, 5, -1)", x.turn(1, 5, -1), -4);
        CHECK.due("turn(1, 5, 10)", x.turn(1, 5, 10), -6);
        CHECK.same("nothing changed", Check.look(x), before);
        CHECK.same("refusals", Check.refusals(x), "2 2 0 1 0 1 ");
    }

    private static void nights() {
        // the gold one is too dear, so the next that the grant is enough for goes up
        RocketsAsk x = CHECK.told("rr00;rg01;rs02;rq03;p102;g009;");
        CHECK.due("nights(1)", x.nights(1), 4);
        CHECK.due("count(4)", x.count(4), 1);
        CHECK.due("keeps(0, 0)", x.keeps(0, 0), 2);
        CHECK.due("nights(1)", x.nights(1), 3);
        CHECK.due("count(4)", x.count(4), 5);
        CHECK.due("keeps(0, 0)", x.keeps(0, 0), 1);
        CHECK.due("keeps(0, 2)", x.keeps(0, 2), 2);
        CHECK.due("nights(60)", x.nights(60), 0);
        CHECK.due("count(4)", x.count(4), 13);
        CHECK.due("count(2)", x.count(2), 62);
        CHECK.due("count(5)", x.count(5), 0);
        x.grant(10);
        CHECK.due("nights(2)", x.nights(2), 0);
        CHECK.due("keeps(0, 1)", x.keeps(0, 1), 1);
    }

    private static void nightsRefused() {
        RocketsAsk x = CHECK.told("rr00;p109;");
        String before = Check.look(x);
        CHECK.due("nights(0)", x.nights(0), -4);
        CHECK.due("nights(min)", x.nights(Integer.MIN_VALUE), -4);
        CHECK.due("nights(61)", x.nights(61), -6);
        CHECK.due("nights(max)", x.nights(Integer.MAX_VALUE), -6);
        CHECK.same("nothing changed", Check.look(x), before);
        for (int i = 0; i < 16; i++) {
            CHECK.due("nights(60)", x.nights(60), 95);
        }
        CHECK.due("nights(40)", x.nights(40), -6);
        CHECK.due("count(2)", x.count(2), 960);
        CHECK.due("nights(39)", x.nights(39), 95);
        CHECK.due("nights(1)", x.nights(1), -6);
        CHECK.due("nights(0)", x.nights(0), -4);
        CHECK.due("count(2)", x.count(2), 999);
        CHECK.same("refusals", Check.refusals(x), "0 0 0 3 0 4 ");
    }
}
