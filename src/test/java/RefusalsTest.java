import java.util.function.ToLongFunction;

/**
 * Every refusal that a promise lists: the least and the greatest that are allowed are taken, the first beyond on
 * either side is refused, the first that fits in the promise's order is told, and nothing changes but its count.
 */
public final class RefusalsTest {
    private static final Check CHECK = new Check("RefusalsTest");
    private static final int MIN = Integer.MIN_VALUE;
    private static final int MAX = Integer.MAX_VALUE;
    private static final int[] BEYOND = {MIN, -2, -1, 9, 10, MAX};

    public static void main(String[] args) {
        letter();
        rocket();
        reader();
        keeps();
        sends();
        boxes();
        wind();
        grant();
        stands();
        turn();
        nights();
        wordsThen();
        then();
        whole();
        whatAlone();
        fewest();
        windBest();
        move();
        forgoAndFirstUp();
        two();
        rain();
        mean();
        whatSaid();
        row();
        lots();
        on();
        neverRefused();
        refusalsAddUp();
        CHECK.end();
    }

    /** Three ROCKETS (1 SENT), two READERS, and something in the ROW, the letters, the image and the REFUSALS. */
    private static RocketsAsk some() {
        RocketsAsk x = CHECK.told("p103;p129;rr21;rs00;rg52;w7;g050;n01;");
        x.image();
        Check.tell(x, "w4;n01;b0;p075;");
        x.stands(2, 6);
        for (int v : new int[] {44, 39, 29}) {
            x.row(v);
        }
        for (char c : "w2;g777;".toCharArray()) {
            x.letter(c);
        }
        x.rocket(-1, 0);
        x.wind(-1);
        x.wind(10);
        x.wind(10);
        return x;
    }

    private static String more(String counts, long number) {
        String[] all = counts.trim().split(" ");
        int at = (int) -number - 1;
        all[at] = String.valueOf(Integer.parseInt(all[at]) + 1);
        return String.join(" ", all) + " ";
    }

    /** x and its twin are alike; of x the call is refused. */
    private static void refused(RocketsAsk x, RocketsAsk twin, String call, ToLongFunction<RocketsAsk> f, int number,
            long answer) {
        String before = Check.refusals(x);
        CHECK.due(call, f.applyAsLong(x), answer);
        CHECK.same("refusals behind " + call, Check.refusals(x), more(before, number));
        CHECK.same("all else behind " + call, Check.lookThrough(x), Check.lookThrough(twin));
    }

    private static void refused(String call, ToLongFunction<RocketsAsk> f, int number) {
        refused(some(), some(), call, f, number, number);
    }

    private static void refusedLong(String call, ToLongFunction<RocketsAsk> f, int number) {
        refused(some(), some(), call, f, number, 4000000000000000000L - number);
    }

    private static void taken(String call, ToLongFunction<RocketsAsk> f, long due) {
        RocketsAsk x = some();
        String before = Check.refusals(x);
        CHECK.due(call, f.applyAsLong(x), due);
        CHECK.same("refusals behind " + call, Check.refusals(x), before);
    }

    /** Whatever it answers, it is not refused. */
    private static void takenAnyhow(String call, ToLongFunction<RocketsAsk> f) {
        RocketsAsk x = some();
        String before = Check.refusals(x);
        f.applyAsLong(x);
        CHECK.same("refusals behind " + call, Check.refusals(x), before);
    }

    private static RocketsAsk fullOfLetters() {
        RocketsAsk x = some();
        for (int i = x.count(7); i < 96; i++) {
            x.letter("w1;".charAt((i - 8) % 3));
        }
        return x;
    }

    private static void letter() {
        taken("letter(0)", x -> x.letter(0), 9);
        taken("letter(255)", x -> x.letter(255), 9);
        refused("letter(-1)", x -> x.letter(-1), -4);
        refused("letter(min)", x -> x.letter(MIN), -4);
        refused("letter(256)", x -> x.letter(256), -6);
        refused("letter(max)", x -> x.letter(MAX), -6);
        for (int c : new int[] {0, 'w', 255, 256, MAX}) {
            refused(fullOfLetters(), fullOfLetters(), "the 97th " + c, x -> x.letter(c), -6, -6);
        }
        refused(fullOfLetters(), fullOfLetters(), "the 97th -1", x -> x.letter(-1), -4, -4);
    }

    private static void rocket() {
        for (int what = 0; what <= 8; what++) {
            int w = what;
            takenAnyhow("rocket(0, " + w + ")", x -> x.rocket(0, w));
            takenAnyhow("rocket(2, " + w + ")", x -> x.rocket(2, w));
            refused("rocket(-1, " + w + ")", x -> x.rocket(-1, w), -1);
            refused("rocket(3, " + w + ")", x -> x.rocket(3, w), -1);
        }
        for (int beyond : BEYOND) {
            refused("rocket(" + beyond + ", 0)", x -> x.rocket(beyond, 0), -1);
            refused("-1 before -2", x -> x.rocket(beyond, beyond), -1);
            refused("rocket(0, " + beyond + ")", x -> x.rocket(0, beyond), -2);
        }
    }

    private static void reader() {
        for (int what = 0; what <= 2; what++) {
            int w = what;
            takenAnyhow("reader(0, " + w + ")", x -> x.reader(0, w));
            takenAnyhow("reader(2, " + w + ")", x -> x.reader(2, w));
            refused("reader(3, " + w + ")", x -> x.reader(3, w), -1);
        }
        refused("reader(0, 3)", x -> x.reader(0, 3), -2);
        for (int beyond : BEYOND) {
            refused("reader(" + beyond + ", 0)", x -> x.reader(beyond, 0), -1);
            refused("-1 before -2", x -> x.reader(beyond, beyond), -1);
            refused("reader(2, " + beyond + ")", x -> x.reader(2, beyond), -2);
        }
    }

    private static void keeps() {
        takenAnyhow("keeps(0, 0)", x -> x.keeps(0, 0));
        takenAnyhow("keeps(2, 5)", x -> x.keeps(2, 5));
        refused("keeps(3, 0)", x -> x.keeps(3, 0), -1);
        refused("keeps(0, 6)", x -> x.keeps(0, 6), -1);
        for (int beyond : BEYOND) {
            refused("keeps(" + beyond + ", 0)", x -> x.keeps(beyond, 0), -1);
            refused("keeps(0, " + beyond + ")", x -> x.keeps(0, beyond), -1);
            refused("both are counted once", x -> x.keeps(beyond, beyond), -1);
        }
    }

    private static RocketsAsk poor() {
        RocketsAsk x = some();
        x.grant(4);
        return x;
    }

    private static void sends() {
        taken("sends(0)", x -> x.sends(0), 39);
        taken("sends(2)", x -> x.sends(2), 34);
        refused("SENT already", x -> x.sends(1), -3);
        refused("sends(3)", x -> x.sends(3), -1);
        refused(poor(), poor(), "1 too dear", x -> x.sends(0), -3, -3);
        for (int beyond : BEYOND) {
            refused("sends(" + beyond + ")", x -> x.sends(beyond), -1);
        }
    }

    private static void boxes() {
        taken("boxes(1)", x -> x.boxes(1), 3);
        refused("boxes(0)", x -> x.boxes(0), -3);
        refused("boxes(2)", x -> x.boxes(2), -3);
        refused("boxes(3)", x -> x.boxes(3), -1);
        for (int beyond : BEYOND) {
            refused("boxes(" + beyond + ")", x -> x.boxes(beyond), -1);
        }
    }

    private static void wind() {
        taken("wind(0)", x -> x.wind(0), 4);
        taken("wind(9)", x -> x.wind(9), 4);
        refused("wind(-1)", x -> x.wind(-1), -4);
        refused("wind(min)", x -> x.wind(MIN), -4);
        refused("wind(10)", x -> x.wind(10), -6);
        refused("wind(max)", x -> x.wind(MAX), -6);
    }

    private static void grant() {
        taken("grant(0)", x -> x.grant(0), 44);
        taken("grant(999)", x -> x.grant(999), 44);
        refused("grant(-1)", x -> x.grant(-1), -4);
        refused("grant(min)", x -> x.grant(MIN), -4);
        refused("grant(1000)", x -> x.grant(1000), -6);
        refused("grant(max)", x -> x.grant(MAX), -6);
    }

    private static void stands() {
        taken("stands(0, 0)", x -> x.stands(0, 0), 10);
        taken("stands(2, 19)", x -> x.stands(2, 19), 6);
        refused("stands(0, 20)", x -> x.stands(0, 20), -1);
        refused("stands(3, 0)", x -> x.stands(3, 0), -1);
        for (int beyond : new int[] {MIN, -1, 20, MAX}) {
            refused("stands(" + beyond + ", 0)", x -> x.stands(beyond, 0), -1);
            refused("stands(0, " + beyond + ")", x -> x.stands(0, beyond), -1);
            refused("both are counted once", x -> x.stands(beyond, beyond), -1);
        }
    }

    private static void turn() {
        taken("turn(0, 0, 0)", x -> x.turn(0, 0, 0), 2);
        taken("turn(2, 5, 9)", x -> x.turn(2, 5, 9), 25);
        taken("turn of one that is SENT", x -> x.turn(1, 5, 9), 10);
        refused("turn(3, 0, 0)", x -> x.turn(3, 0, 0), -1);
        refused("turn(0, 6, 0)", x -> x.turn(0, 6, 0), -2);
        refused("turn(0, 0, -1)", x -> x.turn(0, 0, -1), -4);
        refused("turn(0, 0, min)", x -> x.turn(0, 0, MIN), -4);
        refused("turn(0, 0, 10)", x -> x.turn(0, 0, 10), -6);
        refused("turn(0, 5, max)", x -> x.turn(0, 5, MAX), -6);
        for (int beyond : BEYOND) {
            refused("turn(" + beyond + ", 0, 0)", x -> x.turn(beyond, 0, 0), -1);
            refused("turn(0, " + beyond + ", 0)", x -> x.turn(0, beyond, 0), -2);
            refused("-1 before -2", x -> x.turn(beyond, 6, 0), -1);
            refused("-1 before -4", x -> x.turn(beyond, 0, -1), -1);
            refused("-1 before -6", x -> x.turn(beyond, 0, 10), -1);
            refused("-2 before -4", x -> x.turn(0, beyond, -1), -2);
            refused("-2 before -6", x -> x.turn(0, beyond, 10), -2);
        }
    }

    private static RocketsAsk late() {
        RocketsAsk x = some();
        for (int i = 0; i < 16; i++) {
            x.nights(60);
        }
        x.nights(35);
        return x;
    }

    private static void nights() {
        taken("nights(1)", x -> x.nights(1), 39);
        taken("nights(60)", x -> x.nights(60), 29);
        refused("nights(0)", x -> x.nights(0), -4);
        refused("nights(-1)", x -> x.nights(-1), -4);
        refused("nights(min)", x -> x.nights(MIN), -4);
        refused("nights(61)", x -> x.nights(61), -6);
        refused("nights(max)", x -> x.nights(MAX), -6);
        CHECK.due("NIGHT", late().count(2), 997);
        CHECK.due("up to NIGHT 999", late().nights(2), 29);
        for (int n : new int[] {3, 60, 61, MAX}) {
            refused(late(), late(), "NIGHT above 999 by " + n, x -> x.nights(n), -6, -6);
        }
        refused(late(), late(), "nights(0)", x -> x.nights(0), -4, -4);
    }

    private static void wordsThen() {
        takenAnyhow("wordsThen(0, 0)", x -> x.wordsThen(0, 0));
        takenAnyhow("wordsThen(2, 60)", x -> x.wordsThen(2, 60));
        refused("wordsThen(0, -1)", x -> x.wordsThen(0, -1), -4);
        refused("wordsThen(0, min)", x -> x.wordsThen(0, MIN), -4);
        refused("wordsThen(2, 61)", x -> x.wordsThen(2, 61), -6);
        refused("wordsThen(2, max)", x -> x.wordsThen(2, MAX), -6);
        for (int beyond : new int[] {MIN, -1, 3, 5, MAX}) {
            refused("wordsThen(" + beyond + ", 0)", x -> x.wordsThen(beyond, 0), -1);
            refused("-1 before -4", x -> x.wordsThen(beyond, -1), -1);
            refused("-1 before -6", x -> x.wordsThen(beyond, 61), -1);
        }
    }

    private static void then() {
        taken("then(0, 0)", x -> x.then(0, 0), 44);
        taken("then(60, 1)", x -> x.then(60, 1), 7);
        for (int what : new int[] {MIN, -1, 0, 1, 2, MAX}) {
            refused("then(-1, " + what + ")", x -> x.then(-1, what), -4);
            refused("then(min, " + what + ")", x -> x.then(MIN, what), -4);
            refused("then(61, " + what + ")", x -> x.then(61, what), -6);
            refused("then(max, " + what + ")", x -> x.then(MAX, what), -6);
        }
        for (int what : new int[] {MIN, -1, 2, MAX}) {
            refused("then(0, " + what + ")", x -> x.then(0, what), -2);
            refused("then(60, " + what + ")", x -> x.then(60, what), -2);
        }
    }

    private static void whole() {
        taken("whole(-1)", x -> x.whole(-1), -9);
        taken("whole(0)", x -> x.whole(0), -9);
        taken("whole(2)", x -> x.whole(2), -9);
        for (int beyond : new int[] {MIN, -2, 3, 5, MAX}) {
            refused("whole(" + beyond + ")", x -> x.whole(beyond), -1);
        }
        CHECK.due("FIRST of nobody", new RocketsAsk().whole(-1), -9);
        CHECK.due("READER 0 of nobody", new RocketsAsk().whole(0), -1);
    }

    private static void whatAlone() {
        for (int what : new int[] {0, 1}) {
            takenAnyhow("next", x -> x.next(what));
            takenAnyhow("longest", x -> x.longest(what));
            takenAnyhow("seen", x -> x.seen(what));
            takenAnyhow("words", x -> x.words(what));
        }
        takenAnyhow("words(2)", x -> x.words(2));
        refused("words(3)", x -> x.words(3), -2);
        refused("words(-1)", x -> x.words(-1), -2);
        for (int what : new int[] {MIN, -1, 2, 3, MAX}) {
            refused("next(" + what + ")", x -> x.next(what), -2);
            refused("longest(" + what + ")", x -> x.longest(what), -2);
            refused("seen(" + what + ")", x -> x.seen(what), -2);
        }
    }

    private static void fewest() {
        takenAnyhow("fewest(0, 0)", x -> x.fewest(0, 0));
        takenAnyhow("fewest(2, 1)", x -> x.fewest(2, 1));
        for (int beyond : new int[] {MIN, -1, 3, 5, MAX}) {
            refused("fewest(" + beyond + ", 0)", x -> x.fewest(beyond, 0), -1);
            refused("-1 before -2", x -> x.fewest(beyond, 2), -1);
        }
        for (int what : new int[] {MIN, -1, 2, MAX}) {
            refused("fewest(2, " + what + ")", x -> x.fewest(2, what), -2);
        }
    }

    private static void windBest() {
        takenAnyhow("windBest(0, 0)", x -> x.windBest(0, 0));
        takenAnyhow("windBest(30, 1)", x -> x.windBest(30, 1));
        for (int what : new int[] {-1, 0, 1, 2}) {
            refused("windBest(-1, " + what + ")", x -> x.windBest(-1, what), -4);
            refused("windBest(min, " + what + ")", x -> x.windBest(MIN, what), -4);
            refused("windBest(31, " + what + ")", x -> x.windBest(31, what), -6);
            refused("windBest(max, " + what + ")", x -> x.windBest(MAX, what), -6);
        }
        for (int what : new int[] {MIN, -1, 2, MAX}) {
            refused("windBest(0, " + what + ")", x -> x.windBest(0, what), -2);
            refused("windBest(30, " + what + ")", x -> x.windBest(30, what), -2);
        }
    }

    private static void move() {
        takenAnyhow("move(0, 0, 0)", x -> x.move(0, 0, 0));
        takenAnyhow("move(2, 30, 1)", x -> x.move(2, 30, 1));
        for (int beyond : new int[] {MIN, -1, 3, 5, MAX}) {
            refused("move(" + beyond + ", 0, 0)", x -> x.move(beyond, 0, 0), -1);
            refused("-1 before -4", x -> x.move(beyond, -1, 0), -1);
            refused("-1 before -6", x -> x.move(beyond, 31, 0), -1);
            refused("-1 before -2", x -> x.move(beyond, 0, 2), -1);
        }
        for (int what : new int[] {-1, 0, 1, 2}) {
            refused("move(0, -1, " + what + ")", x -> x.move(0, -1, what), -4);
            refused("move(0, min, " + what + ")", x -> x.move(0, MIN, what), -4);
            refused("move(0, 31, " + what + ")", x -> x.move(0, 31, what), -6);
            refused("move(0, max, " + what + ")", x -> x.move(0, MAX, what), -6);
        }
        for (int what : new int[] {MIN, -1, 2, MAX}) {
            refused("move(2, 0, " + what + ")", x -> x.move(2, 0, what), -2);
            refused("move(2, 30, " + what + ")", x -> x.move(2, 30, what), -2);
        }
    }

    private static void forgoAndFirstUp() {
        for (int n : new int[] {1, 30}) {
            takenAnyhow("forgo(" + n + ")", x -> x.forgo(n));
            takenAnyhow("firstUp(" + n + ")", x -> x.firstUp(n));
        }
        for (int n : new int[] {MIN, -1, 0}) {
            refused("forgo(" + n + ")", x -> x.forgo(n), -4);
            refused("firstUp(" + n + ")", x -> x.firstUp(n), -4);
        }
        for (int n : new int[] {31, 60, MAX}) {
            refused("forgo(" + n + ")", x -> x.forgo(n), -6);
            refused("firstUp(" + n + ")", x -> x.firstUp(n), -6);
        }
    }

    private static void two() {
        takenAnyhow("two(0, 2, 0)", x -> x.two(0, 2, 0));
        takenAnyhow("two(2, 0, 30)", x -> x.two(2, 0, 30));
        for (int beyond : new int[] {MIN, -1, 3, 5, MAX}) {
            refused("two(" + beyond + ", 0, 0)", x -> x.two(beyond, 0, 0), -1);
            refused("two(0, " + beyond + ", 0)", x -> x.two(0, beyond, 0), -1);
            refused("nobody twice", x -> x.two(beyond, beyond, 0), -1);
            refused("-1 before -4", x -> x.two(0, beyond, -1), -1);
            refused("-1 before -6", x -> x.two(beyond, 0, 31), -1);
        }
        for (int one = 0; one < 3; one++) {
            int twice = one;
            refused("one twice", x -> x.two(twice, twice, 0), -1);
            refused("one twice before -4", x -> x.two(twice, twice, -1), -1);
            refused("one twice before -6", x -> x.two(twice, twice, 31), -1);
        }
        refused("two(0, 1, -1)", x -> x.two(0, 1, -1), -4);
        refused("two(1, 2, min)", x -> x.two(1, 2, MIN), -4);
        refused("two(0, 1, 31)", x -> x.two(0, 1, 31), -6);
        refused("two(1, 2, max)", x -> x.two(1, 2, MAX), -6);
    }

    private static void rain() {
        takenAnyhow("rain(0, 0, 2, 0)", x -> x.rain(0, 0, 2, 0));
        takenAnyhow("rain(2, 7, 20, 1)", x -> x.rain(2, 7, 20, 1));
        for (int beyond : new int[] {MIN, -1, 3, 5, MAX}) {
            refusedLong("rain(" + beyond + ", 0, 2, 0)", x -> x.rain(beyond, 0, 2, 0), -1);
            refusedLong("-1 before -4", x -> x.rain(beyond, -1, 1, 0), -1);
            refusedLong("-1 before -6", x -> x.rain(beyond, 8, 21, 0), -1);
            refusedLong("-1 before -2", x -> x.rain(beyond, 0, 2, 2), -1);
        }
        for (int part : new int[] {-1, 0, 1, 2}) {
            refusedLong("n below 0", x -> x.rain(0, -1, 2, part), -4);
            refusedLong("n far below 0", x -> x.rain(0, MIN, 20, part), -4);
            refusedLong("t below 2", x -> x.rain(0, 0, 1, part), -4);
            refusedLong("t is 0", x -> x.rain(0, 7, 0, part), -4);
            refusedLong("t far below 2", x -> x.rain(0, 7, MIN, part), -4);
            refusedLong("n below before t above", x -> x.rain(0, -1, 21, part), -4);
            refusedLong("t below before n above", x -> x.rain(0, 8, 1, part), -4);
            refusedLong("n above 7", x -> x.rain(0, 8, 2, part), -6);
            refusedLong("n far above 7", x -> x.rain(0, MAX, 20, part), -6);
            refusedLong("t above 20", x -> x.rain(0, 0, 21, part), -6);
            refusedLong("t far above 20", x -> x.rain(0, 7, MAX, part), -6);
            refusedLong("both above", x -> x.rain(0, 8, 21, part), -6);
        }
        for (int part : new int[] {MIN, -1, 2, MAX}) {
            refusedLong("rain(0, 0, 2, " + part + ")", x -> x.rain(0, 0, 2, part), -2);
            refusedLong("rain(2, 7, 20, " + part + ")", x -> x.rain(2, 7, 20, part), -2);
        }
    }

    private static void mean() {
        taken("mean(0)", x -> x.mean(0), 16);
        taken("mean(1)", x -> x.mean(1), 3);
        for (int part : new int[] {MIN, -1, 2, MAX}) {
            refusedLong("mean(" + part + ")", x -> x.mean(part), -2);
        }
    }

    private static void whatSaid() {
        takenAnyhow("whatSaid(0, 0)", x -> x.whatSaid(0, 0));
        takenAnyhow("whatSaid(2, 1)", x -> x.whatSaid(2, 1));
        for (int beyond : new int[] {MIN, -1, 3, 9, MAX}) {
            refused("whatSaid(" + beyond + ", 0)", x -> x.whatSaid(beyond, 0), -1);
            refused("-1 before -2", x -> x.whatSaid(beyond, 2), -1);
        }
        for (int what : new int[] {MIN, -1, 2, MAX}) {
            refused("whatSaid(2, " + what + ")", x -> x.whatSaid(2, what), -2);
        }
    }

    private static RocketsAsk fullRow() {
        RocketsAsk x = some();
        for (int i = x.count(6); i < 16; i++) {
            x.row(29);
        }
        return x;
    }

    private static void row() {
        taken("row(0)", x -> x.row(0), 4);
        taken("row(99)", x -> x.row(99), 4);
        refused("row(-1)", x -> x.row(-1), -4);
        refused("row(min)", x -> x.row(MIN), -4);
        refused("row(100)", x -> x.row(100), -6);
        refused("row(max)", x -> x.row(MAX), -6);
        for (int v : new int[] {0, 29, 99, 100, MAX}) {
            refused(fullRow(), fullRow(), "the 17th " + v, x -> x.row(v), -6, -6);
        }
        refused(fullRow(), fullRow(), "the 17th -1", x -> x.row(-1), -4, -4);
        CHECK.due("all 16 are so", fullRow().judge(), -9);
    }

    private static void lots() {
        takenAnyhow("lots(1, min, 0)", x -> x.lots(1, MIN, 0));
        takenAnyhow("lots(20, max, 1)", x -> x.lots(20, MAX, 1));
        for (int what : new int[] {-1, 0, 1, 2}) {
            refused("lots(0, 0, " + what + ")", x -> x.lots(0, 0, what), -4);
            refused("lots(min, 0, " + what + ")", x -> x.lots(MIN, 0, what), -4);
            refused("lots(21, 0, " + what + ")", x -> x.lots(21, 0, what), -6);
            refused("lots(max, 0, " + what + ")", x -> x.lots(MAX, 0, what), -6);
        }
        for (int what : new int[] {MIN, -1, 2, MAX}) {
            refused("lots(1, 0, " + what + ")", x -> x.lots(1, 0, what), -2);
            refused("lots(20, 0, " + what + ")", x -> x.lots(20, 0, what), -2);
        }
    }

    private static void on() {
        taken("on()", x -> x.on(), 1);
        RocketsAsk x = CHECK.told("p103;rr21;n02;");
        refused(x, CHECK.told("p103;rr21;n02;"), "no image", RocketsAsk::on, -3, -3);
    }

    /** Calls whose promises list no refusal. */
    private static void neverRefused() {
        for (RocketsAsk x : new RocketsAsk[] {new RocketsAsk(), CHECK.told("p109;"), CHECK.told("rs00;")}) {
            x.near();
            x.alone();
            x.tell();
            x.judge();
            x.clear();
            x.image();
            x.valley();
            for (int what : new int[] {MIN, -1, 8, 10, 17, MAX}) {
                CHECK.due("count(" + what + ")", x.count(what), -9);
            }
            CHECK.same("refusals", Check.refusals(x), "0 0 0 0 0 0 ");
        }
    }

    private static void refusalsAddUp() {
        RocketsAsk x = CHECK.told("rs00;p109;");
        for (int i = 1; i <= 40; i++) {
            x.rocket(1, 0);
            x.mean(2);
            x.boxes(0);
            x.rain(0, -1, 2, 0);
            x.rain(0, 0, 21, 0);
            CHECK.same("refusals", Check.refusals(x), i + " " + i + " " + i + " " + i + " 0 " + i + " ");
        }
        CHECK.due("a new object has none", new RocketsAsk().count(11), 0);
    }
}
