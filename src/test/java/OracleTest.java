import java.math.BigInteger;
import java.util.ArrayList;
import java.util.List;
import java.util.Random;
import java.util.function.LongSupplier;
import java.util.regex.Matcher;
import java.util.regex.Pattern;

/**
 * Random runs of calls, each answer compared with a second writing of the document that shares
 * nothing with the class: kinds by inheritance, letters by a pattern, new valleys for each thought.
 */
public final class OracleTest {
    private static final Check CHECK = new Check("OracleTest");
    private static final int RUNS = 150;
    private static final int CALLS = 300;

    static class Rocket {
        int cost() { return 5; }
        int reach(int figure) { return figure / 2 + 2; }
        int dark(int figure) { return figure + 1; }
        int drift() { return 1; }
    }

    static class Spark extends Rocket {
        @Override int cost() { return 1; }
        @Override int reach(int figure) { return super.reach(figure) / 2; }
        @Override int dark(int figure) { return 0; }
    }

    static class Gold extends Rocket {
        @Override int cost() { return 2 * super.cost(); }
        @Override int reach(int figure) { return super.reach(figure) + 3; }
        @Override int dark(int figure) { return 2 * super.dark(figure); }
    }

    static class Drifter extends Gold {
        @Override int cost() { return super.cost() + 1; }
        @Override int drift() { return 3; }
    }

    static class Quiet extends Spark {
        @Override int cost() { return super.cost() + 2; }
        @Override int dark(int figure) { return super.dark(figure) + 9; }
    }

    static class Long extends Drifter {
        @Override int cost() { return super.cost() + 10; }
        @Override int reach(int figure) { return 2 * super.reach(figure); }
    }

    private static final Rocket[] KINDS =
        {new Rocket(), new Spark(), new Gold(), new Drifter(), new Quiet(), new Long()};

    record Fire(int kind, int figure, int word, boolean sent) {
        Fire sent(boolean is) { return new Fire(kind, figure, word, is); }
        int cost() { return KINDS[kind].cost(); }
        int reach() { return KINDS[kind].reach(figure); }
        int dark() { return KINDS[kind].dark(figure); }
        int burst(int wind) {
            return Math.max(0, Math.min(19, 10 + KINDS[kind].drift() * (wind - 5)));
        }
    }

    record Man(int at, int minds, List<Integer> keeps) {
        Man reads(int word) {
            List<Integer> next = new ArrayList<>(keeps);
            next.set(word, Math.max(next.get(word), minds == 9 ? 99 : minds));
            return new Man(at, minds, next);
        }
        Man sleeps() {
            return new Man(at, minds, keeps.stream().map(k -> k == 99 ? 99 : Math.max(0, k - 1)).toList());
        }
        Man hears(Man other) {
            List<Integer> next = new ArrayList<>();
            for (int w = 0; w < 6; w++) {
                next.add(Math.max(keeps.get(w), other.keeps.get(w)));
            }
            return new Man(at, minds, next);
        }
        int words() {
            return (int) keeps.stream().filter(k -> k > 0).count();
        }
        int bits() {
            int bits = 0;
            for (int w = 0; w < 6; w++) {
                bits += keeps.get(w) > 0 ? 1 << w : 0;
            }
            return bits;
        }
        boolean whole() { return words() == 6; }
    }

    static final class Model {
        final List<Fire> fires = new ArrayList<>();
        final List<Man> men = new ArrayList<>();
        int grant = 100;
        int wind = 5;
        int night = 0;

        Model copy() {
            Model m = new Model();
            m.fires.addAll(fires);
            m.men.addAll(men);
            m.grant = grant;
            m.wind = wind;
            m.night = night;
            return m;
        }
        boolean reads(int fire, int man) {
            Fire f = fires.get(fire);
            return Math.abs(men.get(man).at() - f.burst(wind)) <= f.reach();
        }
        int readBits(int fire) {
            int bits = 0;
            for (int m = 0; m < men.size(); m++) {
                bits += reads(fire, m) ? 1 << m : 0;
            }
            return bits;
        }
        void burst(int fire, List<Integer> blind) {
            for (int m = 0; m < men.size(); m++) {
                if (!blind.contains(m) && reads(fire, m)) {
                    men.set(m, men.get(m).reads(fires.get(fire).word()));
                }
            }
        }
        boolean can(int fire) {
            return fire < fires.size() && !fires.get(fire).sent() && fires.get(fire).cost() <= grant;
        }
        Model send(int fire, List<Integer> blind) {
            grant -= fires.get(fire).cost();
            fires.set(fire, fires.get(fire).sent(true));
            burst(fire, blind);
            return this;
        }
        int next() {
            for (int f = 0; f < fires.size(); f++) {
                if (can(f)) {
                    return f;
                }
            }
            return -9;
        }
        Model nights(int n, List<Integer> blind) {
            for (int i = 0; i < n; i++) {
                night++;
                men.replaceAll(Man::sleeps);
                if (next() >= 0) {
                    send(next(), blind);
                }
            }
            return this;
        }
        Model after(int n) { return copy().nights(n, List.of()); }
        int sent() {
            int bits = 0;
            for (int f = 0; f < fires.size(); f++) {
                bits += fires.get(f).sent() ? 1 << f : 0;
            }
            return bits;
        }
        int words() { return men.stream().mapToInt(Man::words).sum(); }
        int wholes() { return (int) men.stream().filter(Man::whole).count(); }
    }

    private static final Pattern VALLEY = Pattern.compile(
        "(r[rsgdql][0-9]{2};|p[0-9]{3};|[swb][0-9];|g[0-9]{3};|n[0-9]{2};)+", Pattern.DOTALL);

    private final Random lot;
    private final RocketsAsk x = new RocketsAsk();
    private Model model = new Model();
    private Model image = null;
    private StringBuilder text = new StringBuilder();
    private final List<Integer> row = new ArrayList<>();
    private final int[] refusals = new int[7];
    private final StringBuilder history = new StringBuilder();

    private OracleTest(long seed) {
        lot = new Random(seed);
    }

    public static void main(String[] args) {
        for (int run = 0; run < RUNS; run++) {
            OracleTest test = new OracleTest(run);
            if (run % 5 != 0) {
                test.startRich();
            }
            for (int call = 0; call < CALLS; call++) {
                test.call();
            }
        }
        CHECK.end();
    }

    private int no(int number) {
        refusals[-number]++;
        return number;
    }

    private long noLong(int number) {
        return 4000000000000000000L - no(number);
    }

    private void due(String call, long got, LongSupplier want) {
        long due = want.getAsLong();
        history.append(call).append('=').append(got).append(' ');
        CHECK.due(got == due ? call : call + " behind " + history, got, due);
    }

    /** Mostly within, now and then at or over the edge. */
    private int about(int least, int most) {
        if (lot.nextInt(40) == 0) {
            return lot.nextBoolean() ? lot.nextInt() : least - 2 + lot.nextInt(most - least + 5);
        }
        if (lot.nextInt(12) == 0) {
            int[] edges = {least - 1, least, most, most + 1};
            return edges[lot.nextInt(4)];
        }
        return least + lot.nextInt(most - least + 1);
    }

    private int aFire() { return about(0, Math.max(0, model.fires.size() - 1)); }
    private int aMan() { return about(0, Math.max(0, model.men.size() - 1)); }
    private boolean noFire(int f) { return f < 0 || f >= model.fires.size(); }
    private boolean noMan(int m) { return m < 0 || m >= model.men.size(); }
    private static boolean noWhat(int what, int most) { return what < 0 || what > most; }

    private void call() {
        switch (lot.nextInt(36)) {
            case 0, 1 -> valley();
            case 2 -> tell();
            case 3 -> oneLetter();
            case 4 -> rocket();
            case 5 -> reader();
            case 6 -> keeps();
            case 7, 8 -> sends();
            case 9 -> boxes();
            case 10 -> wind();
            case 11 -> grant();
            case 12 -> stands();
            case 13 -> turn();
            case 14 -> nights();
            case 15 -> wordsThen();
            case 16 -> then();
            case 17 -> whole();
            case 18 -> next();
            case 19 -> fewest();
            case 20 -> windBest();
            case 21 -> move();
            case 22 -> forgo();
            case 23 -> firstUp();
            case 24 -> longestAndSeen();
            case 25 -> words();
            case 26 -> nearAlone();
            case 27 -> tell();
            case 28 -> two();
            case 29 -> rain();
            case 30 -> mean();
            case 31 -> whatSaid();
            case 32 -> row();
            case 33 -> judgeOrClear();
            case 34 -> lots();
            default -> imageOnCount();
        }
    }

    /** All words in the box and readers near by, kept as the image, so that questions get whole. */
    private void startRich() {
        StringBuilder all = new StringBuilder();
        int rockets = 6 + lot.nextInt(4);
        int shift = lot.nextInt(6);
        for (int i = 0; i < rockets; i++) {
            all.append('r').append("rsgdqlgr".charAt(lot.nextInt(8))).append(lot.nextInt(10));
            all.append((i + shift) % 6).append(';');
        }
        int readers = 1 + lot.nextInt(5);
        for (int i = 0; i < readers; i++) {
            int minds = lot.nextInt(3) == 0 ? 4 + lot.nextInt(5) : 9;
            all.append(String.format("p%02d%d;", 7 + lot.nextInt(7), minds));
        }
        all.append(String.format("g%03d;", 20 + lot.nextInt(150)));
        int sent = lot.nextInt(6);
        for (int i = 0; i < sent && all.length() + 6 <= 96; i++) {
            all.append('w').append(3 + lot.nextInt(5)).append(";s").append(i).append(';');
        }
        for (int i = 0; i < all.length(); i++) {
            letter(all.charAt(i));
        }
        becomes();
        takeImage();
    }

    private String statement() {
        return switch (lot.nextInt(14)) {
            case 0, 1, 2, 3 -> "r" + "rsgdqlss".charAt(lot.nextInt(8)) + lot.nextInt(10)
                + (lot.nextInt(30) == 0 ? lot.nextInt(10) : lot.nextInt(6)) + ";";
            case 4, 5 -> String.format("p%02d%d;", lot.nextInt(20) == 0 ? lot.nextInt(100) : lot.nextInt(20),
                lot.nextInt(3) == 0 ? 9 : lot.nextInt(10));
            case 6, 7, 8, 9 -> "s" + lot.nextInt(Math.max(1, model.fires.size()) + lot.nextInt(2)) + ";";
            case 10 -> "w" + lot.nextInt(10) + ";";
            case 11 -> String.format("g%03d;", lot.nextInt(200));
            case 12 -> "b" + lot.nextInt(Math.max(1, model.fires.size())) + ";";
            default -> String.format("n%02d;", lot.nextInt(15) == 0 ? lot.nextInt(100) : 1 + lot.nextInt(5));
        };
    }

    private void letter(int c) {
        due("letter(" + c + ")", x.letter(c), () -> {
            if (c < 0) {
                return no(-4);
            }
            if (c > 255 || text.length() >= 96) {
                return no(-6);
            }
            text.append((char) c);
            return text.length();
        });
    }

    private void oneLetter() {
        letter(lot.nextInt(5) == 0 ? about(0, 255) : "rrpswgbn0123456789;;".charAt(lot.nextInt(20)));
        if (lot.nextInt(3) > 0) {
            becomes();
        }
    }

    private void valley() {
        StringBuilder more = new StringBuilder();
        int statements = lot.nextInt(30) == 0 ? 25 : 1 + lot.nextInt(4);
        for (int i = 0; i < statements; i++) {
            more.append(statement());
        }
        if (lot.nextInt(10) == 0) {
            more.setCharAt(lot.nextInt(more.length()), ";0159rspx".charAt(lot.nextInt(9)));
        }
        if (lot.nextInt(20) == 0) {
            more.setLength(lot.nextInt(more.length()));
        }
        for (int i = 0; i < more.length(); i++) {
            letter(more.charAt(i));
        }
        becomes();
    }

    private void becomes() {
        due("valley()", x.valley(), () -> {
            String all = text.toString();
            text = new StringBuilder();
            int wrong = firstWrong(all);
            if (wrong >= 0) {
                return -1000 - wrong;
            }
            Model next = model.copy();
            int place = 0;
            int number = 0;
            for (String statement : all.split(";")) {
                if (!comes(next, statement)) {
                    return -2000 - place;
                }
                place += statement.length() + 1;
                number++;
            }
            model = next;
            return number;
        });
    }

    private static int firstWrong(String all) {
        for (int end = 1; end <= all.length(); end++) {
            Matcher matcher = VALLEY.matcher(all.substring(0, end));
            if (!matcher.matches() && !matcher.hitEnd()) {
                return end - 1;
            }
        }
        return VALLEY.matcher(all).matches() ? -1 : all.length();
    }

    private static boolean comes(Model next, String s) {
        int number = s.charAt(0) == 'r' ? -1 : Integer.parseInt(s.substring(1));
        switch (s.charAt(0)) {
            case 'r' -> {
                next.fires.add(new Fire("rsgdql".indexOf(s.charAt(1)), s.charAt(2) - '0', s.charAt(3) - '0', false));
                return s.charAt(3) < '6' && next.fires.size() <= 9;
            }
            case 'p' -> {
                next.men.add(new Man(number / 10, number % 10, List.of(0, 0, 0, 0, 0, 0)));
                return number < 200 && next.men.size() <= 5;
            }
            case 's' -> {
                return next.can(number) && next.send(number, List.of()) != null;
            }
            case 'w' -> next.wind = number;
            case 'g' -> next.grant = number;
            case 'b' -> {
                if (number >= next.fires.size() || !next.fires.get(number).sent()) {
                    return false;
                }
                next.fires.set(number, next.fires.get(number).sent(false));
            }
            default -> {
                next.nights(number, List.of());
                return number >= 1 && number <= 60 && next.night <= 999;
            }
        }
        return true;
    }

    private void rocket() {
        int f = aFire();
        int what = about(0, 8);
        due("rocket(" + f + ", " + what + ")", x.rocket(f, what), () -> {
            if (noFire(f)) {
                return no(-1);
            }
            Fire fire = model.fires.get(f);
            return switch (what) {
                case 0 -> fire.kind();
                case 1 -> fire.figure();
                case 2 -> fire.word();
                case 3 -> fire.sent() ? 1 : 0;
                case 4 -> fire.cost();
                case 5 -> fire.reach();
                case 6 -> fire.dark();
                case 7 -> fire.burst(model.wind);
                case 8 -> model.readBits(f);
                default -> no(-2);
            };
        });
    }

    private void reader() {
        int m = aMan();
        int what = about(0, 2);
        due("reader(" + m + ", " + what + ")", x.reader(m, what), () -> {
            if (noMan(m)) {
                return no(-1);
            }
            Man man = model.men.get(m);
            return switch (what) {
                case 0 -> man.at();
                case 1 -> man.minds();
                case 2 -> man.bits();
                default -> no(-2);
            };
        });
    }

    private void keeps() {
        int m = aMan();
        int w = about(0, 5);
        due("keeps(" + m + ", " + w + ")", x.keeps(m, w),
            () -> noMan(m) || noWhat(w, 5) ? no(-1) : model.men.get(m).keeps().get(w));
    }

    private void sends() {
        int f = aFire();
        due("sends(" + f + ")", x.sends(f),
            () -> noFire(f) ? no(-1) : !model.can(f) ? no(-3) : model.send(f, List.of()).grant);
    }

    private void boxes() {
        int f = aFire();
        due("boxes(" + f + ")", x.boxes(f), () -> {
            if (noFire(f)) {
                return no(-1);
            }
            if (!model.fires.get(f).sent()) {
                return no(-3);
            }
            model.fires.set(f, model.fires.get(f).sent(false));
            return model.fires.stream().filter(fire -> !fire.sent()).count();
        });
    }

    private void wind() {
        int v = about(0, 9);
        due("wind(" + v + ")", x.wind(v), () -> {
            int before = model.wind;
            if (v < 0 || v > 9) {
                return no(v < 0 ? -4 : -6);
            }
            model.wind = v;
            return before;
        });
    }

    private void grant() {
        int v = lot.nextInt(3) == 0 ? about(0, 999) : about(0, 60);
        due("grant(" + v + ")", x.grant(v), () -> {
            int before = model.grant;
            if (v < 0 || v > 999) {
                return no(v < 0 ? -4 : -6);
            }
            model.grant = v;
            return before;
        });
    }

    private void stands() {
        int m = aMan();
        int place = about(0, 19);
        due("stands(" + m + ", " + place + ")", x.stands(m, place), () -> {
            if (noMan(m) || noWhat(place, 19)) {
                return no(-1);
            }
            Man man = model.men.get(m);
            model.men.set(m, new Man(place, man.minds(), man.keeps()));
            return man.at();
        });
    }

    private void turn() {
        int f = aFire();
        int kind = about(0, 5);
        int figure = about(0, 9);
        due("turn(" + f + ", " + kind + ", " + figure + ")", x.turn(f, kind, figure), () -> {
            if (noFire(f)) {
                return no(-1);
            }
            if (noWhat(kind, 5)) {
                return no(-2);
            }
            if (figure < 0 || figure > 9) {
                return no(figure < 0 ? -4 : -6);
            }
            Fire fire = model.fires.get(f);
            model.fires.set(f, new Fire(kind, figure, fire.word(), fire.sent()));
            return 10 * fire.kind() + fire.figure();
        });
    }

    private void nights() {
        int n = lot.nextInt(6) == 0 ? about(1, 60) : about(1, 2);
        due("nights(" + n + ")", x.nights(n), () -> {
            if (n < 1) {
                return no(-4);
            }
            return n > 60 || model.night + n > 999 ? no(-6) : model.nights(n, List.of()).grant;
        });
    }

    private void wordsThen() {
        int m = aMan();
        int n = lot.nextBoolean() ? about(0, 60) : about(0, 9);
        due("wordsThen(" + m + ", " + n + ")", x.wordsThen(m, n), () -> noMan(m) ? no(-1)
            : n < 0 ? no(-4) : n > 60 ? no(-6) : model.after(n).men.get(m).bits());
    }

    private void then() {
        int n = lot.nextBoolean() ? about(0, 60) : about(0, 9);
        int what = about(0, 1);
        due("then(" + n + ", " + what + ")", x.then(n, what), () -> n < 0 ? no(-4) : n > 60 ? no(-6)
            : noWhat(what, 1) ? no(-2) : what == 0 ? model.after(n).grant : model.after(n).sent());
    }

    private int whole(int m) {
        for (int n = 0; n <= 60; n++) {
            if (model.after(n).men.get(m).whole()) {
                return n;
            }
        }
        return -9;
    }

    private void whole() {
        int m = lot.nextInt(3) == 0 ? -1 : aMan();
        due("whole(" + m + ")", x.whole(m), () -> {
            if (m != -1) {
                return noMan(m) ? no(-1) : whole(m);
            }
            for (int n = 0; n <= 60; n++) {
                for (int i = 0; i < model.men.size(); i++) {
                    if (whole(i) == n) {
                        return i;
                    }
                }
            }
            return -9;
        });
    }

    private void next() {
        int what = about(0, 1);
        due("next(" + what + ")", x.next(what), () -> {
            if (noWhat(what, 1)) {
                return no(-2);
            }
            if (what == 0) {
                return model.next();
            }
            for (int n = 0; n <= 60; n++) {
                if (model.after(n).next() == -9) {
                    return n;
                }
            }
            return -9;
        });
    }

    private void fewest() {
        int m = aMan();
        int what = about(0, 1);
        due("fewest(" + m + ", " + what + ")", x.fewest(m, what), () -> {
            if (noMan(m) || noWhat(what, 1)) {
                return no(noMan(m) ? -1 : -2);
            }
            int few = 99;
            int bits = -9;
            int cheap = -9;
            for (int set = 0; set < 1 << model.fires.size(); set++) {
                Model thought = model.copy();
                int cost = 0;
                boolean inBox = true;
                for (int f = 0; f < model.fires.size(); f++) {
                    if ((set & 1 << f) != 0) {
                        inBox &= !model.fires.get(f).sent();
                        cost += model.fires.get(f).cost();
                        thought.burst(f, List.of());
                    }
                }
                if (inBox && thought.men.get(m).whole()) {
                    if (Integer.bitCount(set) < few) {
                        few = Integer.bitCount(set);
                        bits = set;
                    }
                    cheap = cheap < 0 ? cost : Math.min(cheap, cost);
                }
            }
            return what == 0 ? bits : cheap;
        });
    }

    private void windBest() {
        int n = about(0, 30);
        int what = about(0, 1);
        due("windBest(" + n + ", " + what + ")", x.windBest(n, what), () -> {
            if (n < 0 || n > 30 || noWhat(what, 1)) {
                return no(n < 0 ? -4 : n > 30 ? -6 : -2);
            }
            int[] have = new int[10];
            for (int w = 0; w < 10; w++) {
                Model thought = model.copy();
                thought.wind = w;
                have[w] = thought.nights(n, List.of()).wholes();
            }
            return first(have, what);
        });
    }

    /** The first index of the most (what 0), or the most. */
    private static int first(int[] have, int what) {
        int best = 0;
        for (int i = 1; i < have.length; i++) {
            best = have[i] > have[best] ? i : best;
        }
        return what == 0 ? best : have[best];
    }

    private void move() {
        int m = aMan();
        int n = about(0, 30);
        int what = about(0, 1);
        due("move(" + m + ", " + n + ", " + what + ")", x.move(m, n, what), () -> {
            if (noMan(m) || n < 0 || n > 30 || noWhat(what, 1)) {
                return no(noMan(m) ? -1 : n < 0 ? -4 : n > 30 ? -6 : -2);
            }
            int[] have = new int[20];
            for (int p = 0; p < 20; p++) {
                Model thought = model.copy();
                thought.men.set(m, new Man(p, model.men.get(m).minds(), model.men.get(m).keeps()));
                have[p] = thought.nights(n, List.of()).men.get(m).words();
            }
            return first(have, what);
        });
    }

    private void forgo() {
        int n = about(1, lot.nextBoolean() ? 30 : 5);
        due("forgo(" + n + ")", x.forgo(n), () -> {
            if (n < 1 || n > 30) {
                return no(n < 1 ? -4 : -6);
            }
            int best = -9;
            int most = model.after(n).words();
            for (int f = 0; f < model.fires.size(); f++) {
                Model thought = model.copy();
                thought.fires.set(f, thought.fires.get(f).sent(true));
                if (!model.fires.get(f).sent() && thought.nights(n, List.of()).words() > most) {
                    most = thought.words();
                    best = f;
                }
            }
            return best;
        });
    }

    private void firstUp() {
        int n = about(1, lot.nextBoolean() ? 30 : 5);
        due("firstUp(" + n + ")", x.firstUp(n), () -> {
            if (n < 1 || n > 30) {
                return no(n < 1 ? -4 : -6);
            }
            int best = -9;
            int most = model.after(n).words();
            for (int f = 0; f < model.fires.size(); f++) {
                Model thought = model.copy();
                if (model.can(f) && thought.send(f, List.of()).nights(n, List.of()).words() > most) {
                    most = thought.words();
                    best = f;
                }
            }
            return best;
        });
    }

    private void longestAndSeen() {
        int what = about(0, 1);
        due("longest(" + what + ")", x.longest(what), () -> {
            if (noWhat(what, 1)) {
                return no(-2);
            }
            if (what == 1) {
                return model.fires.stream().filter(f -> !f.sent()).mapToInt(Fire::cost).sum();
            }
            int[] dark = model.fires.stream().mapToInt(Fire::dark).toArray();
            return dark.length == 0 ? -9 : first(dark, 0);
        });
        due("seen(" + what + ")", x.seen(what), () -> {
            if (noWhat(what, 1)) {
                return no(-2);
            }
            int[] read = new int[model.fires.size()];
            for (int f = 0; f < read.length; f++) {
                read[f] = Integer.bitCount(model.readBits(f));
            }
            return read.length == 0 ? (what == 0 ? 0 : -9) : first(read, 1 - what);
        });
    }

    private void words() {
        int what = about(0, 2);
        due("words(" + what + ")", x.words(what), () -> {
            int lacks = 0;
            int known = 0;
            int[] have = new int[6];
            for (int w = 0; w < 6; w++) {
                int word = w;
                lacks += model.fires.stream().noneMatch(f -> f.word() == word) ? 1 << w : 0;
                known += model.men.stream().allMatch(m -> m.keeps().get(word) > 0) ? 1 << w : 0;
                have[w] = -(int) model.men.stream().filter(m -> m.keeps().get(word) > 0).count();
            }
            return noWhat(what, 2) ? no(-2) : what == 0 ? lacks : what == 1 ? known : first(have, 0);
        });
    }

    private void nearAlone() {
        due("near()", x.near(), () -> {
            int[] steps = model.men.stream().mapToInt(m -> -Math.abs(m.at() - 10)).toArray();
            return steps.length == 0 ? -9 : first(steps, 0);
        });
        due("alone()", x.alone(), () -> {
            int bits = 0;
            for (int w = 0; w < 6; w++) {
                int who = 0;
                for (int m = 0; m < model.men.size(); m++) {
                    who += model.men.get(m).keeps().get(w) > 0 ? 1 << m : 0;
                }
                bits |= Integer.bitCount(who) == 1 ? who : 0;
            }
            return bits;
        });
    }

    private void tell() {
        due("tell()", x.tell(), () -> {
            int best = -9;
            int most = model.wholes();
            for (int a = 0; a < model.men.size(); a++) {
                for (int b = 0; b < model.men.size(); b++) {
                    Model thought = model.copy();
                    thought.men.set(b, thought.men.get(b).hears(thought.men.get(a)));
                    if (a != b && thought.wholes() > most) {
                        most = thought.wholes();
                        best = 10 * a + b;
                    }
                }
            }
            return best;
        });
    }

    /** What the reader has by the choices of both. */
    private int gets(int who, int other, int whoLooks, int otherLooks, int n) {
        List<Integer> blind = new ArrayList<>();
        if (whoLooks == 0) {
            blind.add(who);
        }
        if (otherLooks == 0) {
            blind.add(other);
        }
        Model thought = model.copy().nights(n, blind);
        Man man = thought.men.get(who);
        return man.words() - whoLooks + (man.whole() && !thought.men.get(other).whole() ? 3 : 0);
    }

    private void two() {
        int a = aMan();
        int b = aMan();
        int n = about(0, lot.nextBoolean() ? 30 : 6);
        due("two(" + a + ", " + b + ", " + n + ")", x.two(a, b, n), () -> {
            if (noMan(a) || noMan(b) || a == b) {
                return no(-1);
            }
            if (n < 0 || n > 30) {
                return no(n < 0 ? -4 : -6);
            }
            for (int i = 0; i < 2; i++) {
                for (int j = 0; j < 2; j++) {
                    if (gets(a, b, i, j, n) >= gets(a, b, 1 - i, j, n)
                        && gets(b, a, j, i, n) >= gets(b, a, 1 - j, i, n)) {
                        return 10 * i + j;
                    }
                }
            }
            return -9;
        });
    }

    /** How many of t to the n equal chances leave him whole: t - 1 are dry, 1 is rain. */
    private static BigInteger chances(Model from, int m, int n, int t) {
        if (n == 0) {
            return from.men.get(m).whole() ? BigInteger.ONE : BigInteger.ZERO;
        }
        Model dry = from.after(1);
        Model rain = from.copy().nights(1, List.of(0, 1, 2, 3, 4));
        return chances(dry, m, n - 1, t).multiply(BigInteger.valueOf(t - 1)).add(chances(rain, m, n - 1, t));
    }

    private static long part(BigInteger above, BigInteger below, int part) {
        return (part == 0 ? above : below).divide(above.gcd(below)).longValueExact();
    }

    private void rain() {
        int m = aMan();
        int n = about(0, 7);
        int t = about(2, 20);
        int part = about(0, 1);
        due("rain(" + m + ", " + n + ", " + t + ", " + part + ")", x.rain(m, n, t, part), () -> {
            if (noMan(m)) {
                return noLong(-1);
            }
            if (n < 0 || t < 2) {
                return noLong(-4);
            }
            if (n > 7 || t > 20) {
                return noLong(-6);
            }
            return noWhat(part, 1) ? noLong(-2) : part(chances(model, m, n, t), BigInteger.valueOf(t).pow(n), part);
        });
    }

    private void mean() {
        int part = about(0, 1);
        due("mean(" + part + ")", x.mean(part), () -> {
            if (noWhat(part, 1)) {
                return noLong(-2);
            }
            long sum = model.fires.stream().mapToInt(Fire::cost).sum();
            return model.fires.isEmpty() ? part
                : part(BigInteger.valueOf(sum), BigInteger.valueOf(model.fires.size()), part);
        });
    }

    private void whatSaid() {
        int f = aFire();
        int what = about(0, 1);
        if (lot.nextBoolean() && !noFire(f)) {
            tellTrueRow(f);
        }
        due("whatSaid(" + f + ", " + what + ")", x.whatSaid(f, what), () -> {
            if (noFire(f) || noWhat(what, 1)) {
                return no(noFire(f) ? -1 : -2);
            }
            int bits = 0;
            for (int i = 0; i < 6; i++) {
                Model thought = model.copy();
                Fire fire = model.fires.get(f);
                thought.fires.set(f, what == 0 ? new Fire(fire.kind(), fire.figure(), i, fire.sent())
                    : new Fire(i, fire.figure(), fire.word(), fire.sent()));
                thought.burst(f, List.of());
                List<Integer> have = thought.men.stream().map(Man::words).toList();
                bits += row.size() <= have.size() && row.equals(have.subList(0, row.size())) ? 1 << i : 0;
            }
            return bits;
        });
    }

    private void clearRow() {
        due("clear()", x.clear(), () -> {
            int before = row.size();
            row.clear();
            return before;
        });
    }

    private void tellTrueRow(int f) {
        clearRow();
        Model thought = model.copy();
        if (lot.nextInt(3) > 0) {
            thought.burst(f, List.of());
        }
        for (Man man : thought.men) {
            if (lot.nextInt(6) > 0) {
                rowOf(man.words());
            }
        }
    }

    private void rowOf(int v) {
        due("row(" + v + ")", x.row(v), () -> {
            if (v < 0) {
                return no(-4);
            }
            if (v > 99 || row.size() >= 16) {
                return no(-6);
            }
            row.add(v);
            return row.size();
        });
    }

    private void row() {
        rowOf(lot.nextBoolean() ? about(0, 99) : about(0, 6));
    }

    private void judgeOrClear() {
        if (lot.nextInt(4) == 0) {
            clearRow();
            return;
        }
        if (lot.nextInt(3) > 0) {
            clearRow();
            int n = lot.nextInt(18);
            for (int i = 0; i < n; i++) {
                rowOf(lot.nextInt(25) == 0 ? about(0, 99) : Math.min(99, model.after(i).grant));
            }
        }
        due("judge()", x.judge(), () -> {
            int wrong = -9;
            for (int i = row.size() - 1; i >= 0; i--) {
                wrong = Math.min(99, model.after(i).grant) == row.get(i) ? wrong : i;
            }
            row.clear();
            return wrong;
        });
    }

    private void lots() {
        int n = about(1, 20);
        int z = lot.nextInt();
        int what = about(0, 1);
        due("lots(" + n + ", " + z + ", " + what + ")", x.lots(n, z, what), () -> {
            if (n < 1 || n > 20 || noWhat(what, 1)) {
                return no(n < 1 ? -4 : n > 20 ? -6 : -2);
            }
            BigInteger seed = BigInteger.valueOf(z);
            int sum = 0;
            for (int season = 0; season < n; season++) {
                Model thought = model.copy();
                for (int i = 0; i < 8; i++) {
                    seed = seed.multiply(BigInteger.valueOf(1664525)).add(BigInteger.valueOf(1013904223))
                        .mod(BigInteger.ONE.shiftLeft(32));
                    thought.wind = seed.clearBit(31).shiftRight(8).mod(BigInteger.TEN).intValue();
                    thought.nights(1, List.of());
                }
                sum += what == 0 ? thought.wholes() : thought.words();
            }
            return sum;
        });
    }

    private void takeImage() {
        due("image()", x.image(), () -> {
            image = model.copy();
            return model.night;
        });
    }

    private void imageOnCount() {
        if (lot.nextInt(40) == 0) {
            takeImage();
        }
        if (lot.nextInt(2) == 0) {
            due("on()", x.on(), () -> {
                if (image == null) {
                    return no(-3);
                }
                model = image.copy();
                return model.night;
            });
        }
        int[] all = {model.fires.size(), model.men.size(), model.night, model.grant, model.sent(), model.words(),
            row.size(), text.length(), -9, -9, -9, refusals[1], refusals[2], refusals[3], refusals[4], refusals[5],
            refusals[6], -9};
        for (int what = 0; what < all.length; what++) {
            int at = what;
            due("count(" + what + ")", x.count(what), () -> all[at]);
        }
    }
}
