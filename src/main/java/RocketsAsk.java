import java.util.Arrays;

/**
 * Rockets that carry a question, word by word, over a valley of readers who forget.
 * The document ../shared/DOC.md numbers the promises; the public methods stand in its order.
 */
public final class RocketsAsk {

    private static final int PLACES = 20;
    private static final int MOUNTAIN = 10;
    private static final int WORDS = 6;
    private static final int QUESTION = 63;
    private static final int MOST_ROCKETS = 9;
    private static final int MOST_READERS = 5;
    private static final int EVERYBODY = 31;
    private static final int MOST_FIGURE = 9;
    private static final int MINDS_FOR_EVER = 9;
    private static final int FOR_EVER = 99;
    private static final int MOST_GRANT = 999;
    private static final int FIRST_GRANT = 100;
    private static final int WINDS = 10;
    private static final int NO_WIND = 5;
    private static final int MOST_NIGHT = 999;
    private static final int MOST_NIGHTS = 60;
    private static final int MOST_PLANNED = 30;
    private static final int MOST_RAIN = 7;
    private static final int MOST_ODDS = 20;
    private static final int MOST_SEASONS = 20;
    private static final int SEASON = 8;
    private static final int MOST_LETTER = 255;
    private static final int MOST_LETTERS = 96;
    private static final int MOST_ROW = 16;
    private static final int MOST_OF_ROW = 99;

    private static final int KINDS = 6;
    private static final int SPARK = 1;
    private static final int GOLD = 2;
    private static final int DRIFTER = 3;
    private static final int QUIET = 4;
    private static final int LONG = 5;
    private static final String KIND_LETTERS = "rsgdql";
    private static final int[] COSTS = {5, 1, 10, 11, 3, 21};

    private static final int NONE = -9;
    private static final int FINE = 0;
    private static final int NOBODY = -1;
    private static final int OTHER = -2;
    private static final int STATE = -3;
    private static final int BELOW = -4;
    private static final int ROOM = -6;
    private static final int REFUSAL_NUMBERS = 6;
    private static final long LONG_REFUSAL = 4000000000000000000L;
    private static final int WRONG_LETTER = -1000;
    private static final int WRONG_STATEMENT = -2000;

    private final Valley now = new Valley();
    /** Every question "in mind" is played out here, so that no call makes an object. */
    private final Valley mind = new Valley();
    private final Valley picture = new Valley();
    private boolean pictured = false;
    private final int[] letters = new int[MOST_LETTERS];
    private int letterCount = 0;
    private final int[] told = new int[MOST_ROW];
    private int toldCount = 0;
    private final int[] refusals = new int[REFUSAL_NUMBERS + 1];
    /** Of each rocket the word (a bit) that it would bring the reader whom fewest() is about. */
    private final int[] brings = new int[MOST_ROCKETS];
    /** Of two() what each of the pair gets, by 2 times the first's choice and the other's. */
    private final int[] firstGets = new int[4];
    private final int[] otherGets = new int[4];

    public RocketsAsk() {
    }

    public int letter(int c) {
        if (c < 0) {
            return refuse(BELOW);
        }
        if (c > MOST_LETTER || letterCount >= MOST_LETTERS) {
            return refuse(ROOM);
        }
        letters[letterCount] = c;
        letterCount++;
        return letterCount;
    }

    public int valley() {
        int length = letterCount;
        letterCount = 0;
        int wrong = wrongLetter(length);
        if (wrong >= 0) {
            return WRONG_LETTER - wrong;
        }
        mind.copyFrom(now);
        int statements = 0;
        for (int place = 0; place < length; place += 1 + lettersBehind(letters[place])) {
            if (!comesToMind(place)) {
                return WRONG_STATEMENT - place;
            }
            statements++;
        }
        now.copyFrom(mind);
        return statements;
    }

    public int rocket(int rocket, int what) {
        if (!now.hasRocket(rocket)) {
            return refuse(NOBODY);
        }
        switch (what) {
            case 0: return now.kind[rocket];
            case 1: return now.figure[rocket];
            case 2: return now.word[rocket];
            case 3: return now.isSent(rocket) ? 1 : 0;
            case 4: return now.costOf(rocket);
            case 5: return now.reachOf(rocket);
            case 6: return now.darkOf(rocket);
            case 7: return now.burstOf(rocket);
            case 8: return now.readersOf(rocket);
            default: return refuse(OTHER);
        }
    }

    public int reader(int reader, int what) {
        if (!now.hasReader(reader)) {
            return refuse(NOBODY);
        }
        switch (what) {
            case 0: return now.at[reader];
            case 1: return now.minds[reader];
            case 2: return now.wordsOf(reader);
            default: return refuse(OTHER);
        }
    }

    public int keeps(int reader, int word) {
        if (!now.hasReader(reader) || word < 0 || word >= WORDS) {
            return refuse(NOBODY);
        }
        return now.left[reader * WORDS + word];
    }

    public int sends(int rocket) {
        if (!now.hasRocket(rocket)) {
            return refuse(NOBODY);
        }
        if (!now.canSend(rocket)) {
            return refuse(STATE);
        }
        now.sendUp(rocket, EVERYBODY);
        return now.money;
    }

    public int boxes(int rocket) {
        if (!now.hasRocket(rocket)) {
            return refuse(NOBODY);
        }
        if (!now.isSent(rocket)) {
            return refuse(STATE);
        }
        now.putBack(rocket);
        return now.rockets - Integer.bitCount(now.sent);
    }

    public int wind(int v) {
        int fault = outside(v, 0, WINDS - 1);
        if (fault != FINE) {
            return refuse(fault);
        }
        int before = now.blows;
        now.blows = v;
        return before;
    }

    public int grant(int v) {
        int fault = outside(v, 0, MOST_GRANT);
        if (fault != FINE) {
            return refuse(fault);
        }
        int before = now.money;
        now.money = v;
        return before;
    }

    public int stands(int reader, int place) {
        if (!now.hasReader(reader) || place < 0 || place >= PLACES) {
            return refuse(NOBODY);
        }
        int before = now.at[reader];
        now.at[reader] = place;
        return before;
    }

    public int turn(int rocket, int kind, int figure) {
        if (!now.hasRocket(rocket)) {
            return refuse(NOBODY);
        }
        if (kind < 0 || kind >= KINDS) {
            return refuse(OTHER);
        }
        int fault = outside(figure, 0, MOST_FIGURE);
        if (fault != FINE) {
            return refuse(fault);
        }
        int before = 10 * now.kind[rocket] + now.figure[rocket];
        now.kind[rocket] = kind;
        now.figure[rocket] = figure;
        return before;
    }

    public int nights(int n) {
        int fault = outside(n, 1, MOST_NIGHTS);
        if (fault != FINE) {
            return refuse(fault);
        }
        if (now.night + n > MOST_NIGHT) {
            return refuse(ROOM);
        }
        now.passNights(n, EVERYBODY);
        return now.money;
    }

    public int wordsThen(int reader, int n) {
        if (!now.hasReader(reader)) {
            return refuse(NOBODY);
        }
        int fault = outside(n, 0, MOST_NIGHTS);
        if (fault != FINE) {
            return refuse(fault);
        }
        thinkOn(n);
        return mind.wordsOf(reader);
    }

    public int then(int n, int what) {
        int fault = outside(n, 0, MOST_NIGHTS);
        if (fault != FINE) {
            return refuse(fault);
        }
        if (!isOneOfTwo(what)) {
            return refuse(OTHER);
        }
        thinkOn(n);
        return what == 0 ? mind.money : mind.sent;
    }

    public int whole(int reader) {
        if (reader == -1) {
            return firstWhole();
        }
        if (!now.hasReader(reader)) {
            return refuse(NOBODY);
        }
        return nightsUntilWhole(reader);
    }

    public int next(int what) {
        if (!isOneOfTwo(what)) {
            return refuse(OTHER);
        }
        return what == 0 ? now.upNext() : nightsUntilSpent();
    }

    public int fewest(int reader, int what) {
        if (!now.hasReader(reader)) {
            return refuse(NOBODY);
        }
        if (!isOneOfTwo(what)) {
            return refuse(OTHER);
        }
        noteWhatIsBrought(reader);
        return what == 0 ? fewestRockets(reader) : leastCost(reader);
    }

    public int windBest(int n, int what) {
        int fault = outside(n, 0, MOST_PLANNED);
        if (fault != FINE) {
            return refuse(fault);
        }
        if (!isOneOfTwo(what)) {
            return refuse(OTHER);
        }
        int best = 0;
        int most = -1;
        for (int v = 0; v < WINDS; v++) {
            mind.copyFrom(now);
            mind.blows = v;
            mind.passNights(n, EVERYBODY);
            int have = mind.countWhole();
            if (have > most) {
                most = have;
                best = v;
            }
        }
        return what == 0 ? best : most;
    }

    public int move(int reader, int n, int what) {
        if (!now.hasReader(reader)) {
            return refuse(NOBODY);
        }
        int fault = outside(n, 0, MOST_PLANNED);
        if (fault != FINE) {
            return refuse(fault);
        }
        if (!isOneOfTwo(what)) {
            return refuse(OTHER);
        }
        int best = 0;
        int most = -1;
        for (int place = 0; place < PLACES; place++) {
            mind.copyFrom(now);
            mind.at[reader] = place;
            mind.passNights(n, EVERYBODY);
            int have = Integer.bitCount(mind.wordsOf(reader));
            if (have > most) {
                most = have;
                best = place;
            }
        }
        return what == 0 ? best : most;
    }

    public int forgo(int n) {
        int fault = outside(n, 1, MOST_PLANNED);
        if (fault != FINE) {
            return refuse(fault);
        }
        return bestToSpend(n, false);
    }

    public int firstUp(int n) {
        int fault = outside(n, 1, MOST_PLANNED);
        if (fault != FINE) {
            return refuse(fault);
        }
        return bestToSpend(n, true);
    }

    public int longest(int what) {
        if (!isOneOfTwo(what)) {
            return refuse(OTHER);
        }
        return what == 0 ? longestDark() : costOfTheBox();
    }

    public int seen(int what) {
        if (!isOneOfTwo(what)) {
            return refuse(OTHER);
        }
        int best = NONE;
        int most = 0;
        for (int rocket = 0; rocket < now.rockets; rocket++) {
            int read = Integer.bitCount(now.readersOf(rocket));
            if (best == NONE || read > most) {
                most = read;
                best = rocket;
            }
        }
        return what == 0 ? most : best;
    }

    public int words(int what) {
        switch (what) {
            case 0: return lackingWords();
            case 1: return knownWords();
            case 2: return rarestWord();
            default: return refuse(OTHER);
        }
    }

    public int near() {
        int best = NONE;
        int least = PLACES;
        for (int reader = 0; reader < now.readers; reader++) {
            int steps = Math.abs(now.at[reader] - MOUNTAIN);
            if (steps < least) {
                least = steps;
                best = reader;
            }
        }
        return best;
    }

    public int alone() {
        int bits = 0;
        for (int reader = 0; reader < now.readers; reader++) {
            int others = 0;
            for (int other = 0; other < now.readers; other++) {
                if (other != reader) {
                    others |= now.wordsOf(other);
                }
            }
            if ((now.wordsOf(reader) & ~others) != 0) {
                bits |= 1 << reader;
            }
        }
        return bits;
    }

    /** Telling changes one reader alone, so any pair that makes one more whole makes most. */
    public int tell() {
        for (int one = 0; one < now.readers; one++) {
            for (int other = 0; other < now.readers; other++) {
                int has = now.wordsOf(other);
                if (has != QUESTION && (has | now.wordsOf(one)) == QUESTION) {
                    return 10 * one + other;
                }
            }
        }
        return NONE;
    }

    public int two(int a, int b, int n) {
        if (!now.hasReader(a) || !now.hasReader(b) || a == b) {
            return refuse(NOBODY);
        }
        int fault = outside(n, 0, MOST_PLANNED);
        if (fault != FINE) {
            return refuse(fault);
        }
        for (int pair = 0; pair < 4; pair++) {
            noteWhatPairGets(a, b, n, pair);
        }
        for (int pair = 0; pair < 4; pair++) {
            if (firstGets[pair] >= firstGets[pair ^ 2] && otherGets[pair] >= otherGets[pair ^ 1]) {
                return 10 * (pair >> 1) + (pair & 1);
            }
        }
        return NONE;
    }

    public long rain(int reader, int n, int t, int part) {
        if (!now.hasReader(reader)) {
            return refuseLong(NOBODY);
        }
        if (n < 0 || t < 2) {
            return refuseLong(BELOW);
        }
        if (n > MOST_RAIN || t > MOST_ODDS) {
            return refuseLong(ROOM);
        }
        if (!isOneOfTwo(part)) {
            return refuseLong(OTHER);
        }
        long above = 0;
        for (int dry = 0; dry < 1 << n; dry++) {
            if (isWholeAfter(reader, n, dry)) {
                above += power(t - 1, Integer.bitCount(dry));
            }
        }
        return partOf(above, power(t, n), part);
    }

    public long mean(int part) {
        if (!isOneOfTwo(part)) {
            return refuseLong(OTHER);
        }
        long sum = 0;
        for (int rocket = 0; rocket < now.rockets; rocket++) {
            sum += now.costOf(rocket);
        }
        return partOf(sum, Math.max(now.rockets, 1), part);
    }

    public int whatSaid(int rocket, int what) {
        if (!now.hasRocket(rocket)) {
            return refuse(NOBODY);
        }
        if (!isOneOfTwo(what)) {
            return refuse(OTHER);
        }
        int bits = 0;
        int choices = what == 0 ? WORDS : KINDS;
        for (int choice = 0; choice < choices; choice++) {
            mind.copyFrom(now);
            if (what == 0) {
                mind.word[rocket] = choice;
            } else {
                mind.kind[rocket] = choice;
            }
            mind.sendUp(rocket, EVERYBODY);
            if (rowFitsMind()) {
                bits |= 1 << choice;
            }
        }
        return bits;
    }

    public int row(int v) {
        int fault = outside(v, 0, MOST_OF_ROW);
        if (fault != FINE) {
            return refuse(fault);
        }
        if (toldCount >= MOST_ROW) {
            return refuse(ROOM);
        }
        told[toldCount] = v;
        toldCount++;
        return toldCount;
    }

    public int judge() {
        int length = toldCount;
        toldCount = 0;
        mind.copyFrom(now);
        for (int i = 0; i < length; i++) {
            if (told[i] != Math.min(mind.money, MOST_OF_ROW)) {
                return i;
            }
            mind.passNights(1, EVERYBODY);
        }
        return NONE;
    }

    public int clear() {
        int before = toldCount;
        toldCount = 0;
        return before;
    }

    public int lots(int n, int z, int what) {
        int fault = outside(n, 1, MOST_SEASONS);
        if (fault != FINE) {
            return refuse(fault);
        }
        if (!isOneOfTwo(what)) {
            return refuse(OTHER);
        }
        int seed = z;
        int sum = 0;
        for (int season = 0; season < n; season++) {
            mind.copyFrom(now);
            for (int i = 0; i < SEASON; i++) {
                seed = seed * 1664525 + 1013904223;
                mind.blows = (seed & 0x7fffffff) / 256 % WINDS;
                mind.passNights(1, EVERYBODY);
            }
            sum += what == 0 ? mind.countWhole() : mind.countWords();
        }
        return sum;
    }

    public int image() {
        picture.copyFrom(now);
        pictured = true;
        return now.night;
    }

    public int on() {
        if (!pictured) {
            return refuse(STATE);
        }
        now.copyFrom(picture);
        return now.night;
    }

    public int count(int what) {
        switch (what) {
            case 0: return now.rockets;
            case 1: return now.readers;
            case 2: return now.night;
            case 3: return now.money;
            case 4: return now.sent;
            case 5: return now.countWords();
            case 6: return toldCount;
            case 7: return letterCount;
            default: return refusalsOf(what - 10);
        }
    }

    // ---- refusals

    private int refuse(int number) {
        if (number < 0 && number >= -REFUSAL_NUMBERS) {
            refusals[-number]++;
        }
        return number;
    }

    private long refuseLong(int number) {
        return LONG_REFUSAL - refuse(number);
    }

    private int refusalsOf(int number) {
        return number >= 1 && number <= REFUSAL_NUMBERS ? refusals[number] : NONE;
    }

    private static int outside(int v, int least, int most) {
        if (v < least) {
            return BELOW;
        }
        return v > most ? ROOM : FINE;
    }

    private static boolean isOneOfTwo(int what) {
        return what == 0 || what == 1;
    }

    // ---- letters of a valley

    /** How many letters stand behind a statement's first one, with the ";"; 0: none begins so. */
    private static int lettersBehind(int first) {
        switch (first) {
            case 'r': return 4;
            case 'p': return 4;
            case 'g': return 4;
            case 'n': return 3;
            case 's': return 2;
            case 'w': return 2;
            case 'b': return 2;
            default: return 0;
        }
    }

    /** The place of the first letter with which no valley goes on (the end, if some lack), or -1. */
    private int wrongLetter(int length) {
        int first = ';';
        int lacking = 0;
        for (int place = 0; place < length; place++) {
            int c = letters[place];
            if (lacking == 0) {
                first = c;
                lacking = lettersBehind(c);
                if (lacking == 0) {
                    return place;
                }
            } else {
                if (!canStand(c, first, lacking)) {
                    return place;
                }
                lacking--;
            }
        }
        return lacking > 0 || length == 0 ? length : -1;
    }

    /** Whether c can stand in a statement that began with first and lacks so many letters yet. */
    private static boolean canStand(int c, int first, int lacking) {
        if (lacking == 1) {
            return c == ';';
        }
        if (first == 'r' && lacking == 4) {
            return kindOf(c) >= 0;
        }
        return c >= '0' && c <= '9';
    }

    private static int kindOf(int c) {
        return KIND_LETTERS.indexOf((char) c);
    }

    private int numberAt(int place, int digits) {
        int number = 0;
        for (int i = place; i < place + digits && i < MOST_LETTERS; i++) {
            number = 10 * number + (letters[i] - '0');
        }
        return number;
    }

    /** The statement that begins at the place comes to the valley in mind, if it is as it must be. */
    private boolean comesToMind(int place) {
        switch (letters[place]) {
            case 'r': return rocketComes(place);
            case 'p': return mind.addReader(numberAt(place + 1, 2), numberAt(place + 3, 1));
            case 's': return rocketGoesUp(numberAt(place + 1, 1));
            case 'b': return rocketGoesBack(numberAt(place + 1, 1));
            case 'n': return nightsGoBy(numberAt(place + 1, 2));
            case 'w':
                mind.blows = numberAt(place + 1, 1);
                return true;
            case 'g':
                mind.money = numberAt(place + 1, 3);
                return true;
            default:
                return false;
        }
    }

    private boolean rocketComes(int place) {
        if (place + 1 >= MOST_LETTERS) {
            return false;
        }
        return mind.addRocket(kindOf(letters[place + 1]), numberAt(place + 2, 1), numberAt(place + 3, 1));
    }

    private boolean rocketGoesUp(int rocket) {
        if (!mind.canSend(rocket)) {
            return false;
        }
        mind.sendUp(rocket, EVERYBODY);
        return true;
    }

    private boolean rocketGoesBack(int rocket) {
        if (!mind.hasRocket(rocket) || !mind.isSent(rocket)) {
            return false;
        }
        mind.putBack(rocket);
        return true;
    }

    private boolean nightsGoBy(int n) {
        if (n < 1 || n > MOST_NIGHTS || mind.night + n > MOST_NIGHT) {
            return false;
        }
        mind.passNights(n, EVERYBODY);
        return true;
    }

    // ---- in mind

    private void thinkOn(int n) {
        mind.copyFrom(now);
        mind.passNights(n, EVERYBODY);
    }

    private int nightsUntilWhole(int reader) {
        mind.copyFrom(now);
        for (int n = 0; n <= MOST_NIGHTS; n++) {
            if (mind.isWhole(reader)) {
                return n;
            }
            mind.passNights(1, EVERYBODY);
        }
        return NONE;
    }

    private int firstWhole() {
        int first = NONE;
        int least = MOST_NIGHTS + 1;
        for (int reader = 0; reader < now.readers; reader++) {
            int n = nightsUntilWhole(reader);
            if (n != NONE && n < least) {
                least = n;
                first = reader;
            }
        }
        return first;
    }

    private int nightsUntilSpent() {
        mind.copyFrom(now);
        for (int n = 0; n <= MOST_NIGHTS; n++) {
            if (mind.upNext() == NONE) {
                return n;
            }
            mind.passNights(1, EVERYBODY);
        }
        return NONE;
    }

    /** A rocket that is sent, or that he does not read or mind, brings him nothing. */
    private void noteWhatIsBrought(int reader) {
        Arrays.fill(brings, 0);
        for (int rocket = 0; rocket < now.rockets; rocket++) {
            boolean reads = (now.readersOf(rocket) >> reader & 1) == 1;
            if (!now.isSent(rocket) && reads && now.minds[reader] > 0) {
                brings[rocket] = 1 << now.word[rocket];
            }
        }
    }

    private boolean makesWhole(int reader, int chosen) {
        int has = now.wordsOf(reader);
        for (int rocket = 0; rocket < now.rockets; rocket++) {
            if ((chosen >> rocket & 1) == 1) {
                has |= brings[rocket];
            }
        }
        return has == QUESTION;
    }

    private int costOfChosen(int chosen) {
        int cost = 0;
        for (int rocket = 0; rocket < now.rockets; rocket++) {
            if ((chosen >> rocket & 1) == 1) {
                cost += now.costOf(rocket);
            }
        }
        return cost;
    }

    private int fewestRockets(int reader) {
        int best = NONE;
        int least = MOST_ROCKETS + 1;
        for (int chosen = 0; chosen < 1 << now.rockets; chosen++) {
            boolean fewer = Integer.bitCount(chosen) < least;
            if (fewer && (chosen & now.sent) == 0 && makesWhole(reader, chosen)) {
                least = Integer.bitCount(chosen);
                best = chosen;
            }
        }
        return best;
    }

    private int leastCost(int reader) {
        int least = NONE;
        for (int chosen = 0; chosen < 1 << now.rockets; chosen++) {
            if ((chosen & now.sent) == 0 && makesWhole(reader, chosen)) {
                int cost = costOfChosen(chosen);
                if (least == NONE || cost < least) {
                    least = cost;
                }
            }
        }
        return least;
    }

    /** The rocket that, sent or else thrown away now, lets more words be had behind n nights. */
    private int bestToSpend(int n, boolean sending) {
        thinkOn(n);
        int most = mind.countWords();
        int best = NONE;
        for (int rocket = 0; rocket < now.rockets; rocket++) {
            if (sending ? now.canSend(rocket) : !now.isSent(rocket)) {
                int have = wordsHadBySpending(rocket, n, sending);
                if (have > most) {
                    most = have;
                    best = rocket;
                }
            }
        }
        return best;
    }

    private int wordsHadBySpending(int rocket, int n, boolean sending) {
        mind.copyFrom(now);
        if (sending) {
            mind.sendUp(rocket, EVERYBODY);
        } else {
            mind.throwAway(rocket);
        }
        mind.passNights(n, EVERYBODY);
        return mind.countWords();
    }

    private int longestDark() {
        int best = NONE;
        int most = -1;
        for (int rocket = 0; rocket < now.rockets; rocket++) {
            int dark = now.darkOf(rocket);
            if (dark > most) {
                most = dark;
                best = rocket;
            }
        }
        return best;
    }

    private int costOfTheBox() {
        return costOfChosen(~now.sent);
    }

    private int lackingWords() {
        int lacking = QUESTION;
        for (int rocket = 0; rocket < now.rockets; rocket++) {
            lacking &= ~(1 << now.word[rocket]);
        }
        return lacking;
    }

    private int knownWords() {
        int known = QUESTION;
        for (int reader = 0; reader < now.readers; reader++) {
            known &= now.wordsOf(reader);
        }
        return known;
    }

    private int rarestWord() {
        int rarest = 0;
        int least = MOST_READERS + 1;
        for (int word = 0; word < WORDS; word++) {
            int have = 0;
            for (int reader = 0; reader < now.readers; reader++) {
                have += now.wordsOf(reader) >> word & 1;
            }
            if (have < least) {
                least = have;
                rarest = word;
            }
        }
        return rarest;
    }

    private void noteWhatPairGets(int a, int b, int n, int pair) {
        int firstLooks = pair >> 1;
        int otherLooks = pair & 1;
        int away = (1 - firstLooks) << a | (1 - otherLooks) << b;
        mind.copyFrom(now);
        mind.passNights(n, EVERYBODY & ~away);
        firstGets[pair] = gain(a, b) - firstLooks;
        otherGets[pair] = gain(b, a) - otherLooks;
    }

    private int gain(int reader, int other) {
        int words = Integer.bitCount(mind.wordsOf(reader));
        return mind.isWhole(reader) && !mind.isWhole(other) ? words + 3 : words;
    }

    /** Bit i of dry: no rain in the night i. */
    private boolean isWholeAfter(int reader, int n, int dry) {
        mind.copyFrom(now);
        for (int i = 0; i < n; i++) {
            mind.passNights(1, (dry >> i & 1) == 1 ? EVERYBODY : 0);
        }
        return mind.isWhole(reader);
    }

    /** A row that tells of more readers than there are can't be so. */
    private boolean rowFitsMind() {
        if (toldCount > mind.readers) {
            return false;
        }
        for (int reader = 0; reader < toldCount; reader++) {
            if (Integer.bitCount(mind.wordsOf(reader)) != told[reader]) {
                return false;
            }
        }
        return true;
    }

    // ---- fractions

    private static long power(int base, int exponent) {
        long product = 1;
        for (int i = 0; i < exponent; i++) {
            product *= base;
        }
        return product;
    }

    private static long partOf(long above, long below, int part) {
        long common = commonDivisor(above, below);
        if (common == 0) {
            return part;
        }
        return (part == 0 ? above : below) / common;
    }

    private static long commonDivisor(long a, long b) {
        long greater = a;
        long smaller = b;
        for (int i = 0; i < 1000 && smaller != 0; i++) {
            long rest = greater % smaller;
            greater = smaller;
            smaller = rest;
        }
        return greater;
    }

    /** All that there is, but the image, the row, letters and refusals. */
    private static final class Valley {
        int rockets = 0;
        final int[] kind = new int[MOST_ROCKETS];
        final int[] figure = new int[MOST_ROCKETS];
        final int[] word = new int[MOST_ROCKETS];
        int sent = 0;
        int readers = 0;
        final int[] at = new int[MOST_READERS];
        final int[] minds = new int[MOST_READERS];
        /** For how many nights yet reader has word: at reader * WORDS + word. */
        final int[] left = new int[MOST_READERS * WORDS];
        int money = FIRST_GRANT;
        int blows = NO_WIND;
        int night = 0;

        void copyFrom(Valley other) {
            rockets = other.rockets;
            System.arraycopy(other.kind, 0, kind, 0, MOST_ROCKETS);
            System.arraycopy(other.figure, 0, figure, 0, MOST_ROCKETS);
            System.arraycopy(other.word, 0, word, 0, MOST_ROCKETS);
            sent = other.sent;
            readers = other.readers;
            System.arraycopy(other.at, 0, at, 0, MOST_READERS);
            System.arraycopy(other.minds, 0, minds, 0, MOST_READERS);
            System.arraycopy(other.left, 0, left, 0, MOST_READERS * WORDS);
            money = other.money;
            blows = other.blows;
            night = other.night;
        }

        boolean hasRocket(int rocket) {
            return rocket >= 0 && rocket < rockets;
        }

        boolean hasReader(int reader) {
            return reader >= 0 && reader < readers;
        }

        boolean addRocket(int newKind, int newFigure, int newWord) {
            boolean known = newKind >= 0 && newKind < KINDS && newWord >= 0 && newWord < WORDS;
            if (!known || rockets >= MOST_ROCKETS) {
                return false;
            }
            kind[rockets] = newKind;
            figure[rockets] = newFigure;
            word[rockets] = newWord;
            rockets++;
            return true;
        }

        boolean addReader(int place, int newMinds) {
            if (place < 0 || place >= PLACES || readers >= MOST_READERS) {
                return false;
            }
            at[readers] = place;
            minds[readers] = newMinds;
            readers++;
            return true;
        }

        boolean isSent(int rocket) {
            return (sent >> rocket & 1) == 1;
        }

        int costOf(int rocket) {
            return COSTS[kind[rocket]];
        }

        int reachOf(int rocket) {
            int plain = figure[rocket] / 2 + 2;
            switch (kind[rocket]) {
                case SPARK: return plain / 2;
                case QUIET: return plain / 2;
                case GOLD: return plain + 3;
                case DRIFTER: return plain + 3;
                case LONG: return 2 * (plain + 3);
                default: return plain;
            }
        }

        int darkOf(int rocket) {
            int plain = figure[rocket] + 1;
            switch (kind[rocket]) {
                case SPARK: return 0;
                case QUIET: return 9;
                case GOLD: return 2 * plain;
                case DRIFTER: return 2 * plain;
                case LONG: return 2 * plain;
                default: return plain;
            }
        }

        int burstOf(int rocket) {
            boolean drifts = kind[rocket] == DRIFTER || kind[rocket] == LONG;
            int steps = blows - NO_WIND;
            int place = MOUNTAIN + (drifts ? 3 * steps : steps);
            if (place < 0) {
                return 0;
            }
            return place >= PLACES ? PLACES - 1 : place;
        }

        /** Who is near enough, whether he minds or not (bits). */
        int readersOf(int rocket) {
            int burst = burstOf(rocket);
            int reach = reachOf(rocket);
            int bits = 0;
            for (int reader = 0; reader < readers; reader++) {
                int steps = at[reader] < burst ? burst - at[reader] : at[reader] - burst;
                if (steps <= reach) {
                    bits |= 1 << reader;
                }
            }
            return bits;
        }

        boolean canSend(int rocket) {
            return hasRocket(rocket) && !isSent(rocket) && costOf(rocket) <= money;
        }

        /**
         * Eyes: the readers (bits) who read it, if they are near enough. Who asks whether it can
         * be asks before: in mind a rocket may go up again, or for more than there is.
         */
        void sendUp(int rocket, int eyes) {
            money -= costOf(rocket);
            throwAway(rocket);
            int reading = readersOf(rocket) & eyes;
            for (int reader = 0; reader < readers; reader++) {
                int place = reader * WORDS + word[rocket];
                int kept = minds[reader] == MINDS_FOR_EVER ? FOR_EVER : minds[reader];
                if ((reading >> reader & 1) == 1 && kept > left[place]) {
                    left[place] = kept;
                }
            }
        }

        void throwAway(int rocket) {
            sent |= 1 << rocket;
        }

        void putBack(int rocket) {
            sent &= ~(1 << rocket);
        }

        /** The least rocket in the box that the grant is enough for. */
        int upNext() {
            for (int rocket = 0; rocket < rockets; rocket++) {
                if (canSend(rocket)) {
                    return rocket;
                }
            }
            return NONE;
        }

        void passNights(int n, int eyes) {
            for (int i = 0; i < n; i++) {
                night++;
                forget();
                int rocket = upNext();
                if (rocket != NONE) {
                    sendUp(rocket, eyes);
                }
            }
        }

        void forget() {
            for (int i = 0; i < readers * WORDS; i++) {
                if (left[i] > 0 && left[i] != FOR_EVER) {
                    left[i]--;
                }
            }
        }

        int wordsOf(int reader) {
            int bits = 0;
            for (int w = 0; w < WORDS; w++) {
                if (left[reader * WORDS + w] > 0) {
                    bits |= 1 << w;
                }
            }
            return bits;
        }

        boolean isWhole(int reader) {
            return wordsOf(reader) == QUESTION;
        }

        int countWhole() {
            int whole = 0;
            for (int reader = 0; reader < readers; reader++) {
                whole += isWhole(reader) ? 1 : 0;
            }
            return whole;
        }

        int countWords() {
            int have = 0;
            for (int reader = 0; reader < readers; reader++) {
                have += Integer.bitCount(wordsOf(reader));
            }
            return have;
        }
    }
}
