/** Compares answers with those that are due, and tells valleys letter by letter. */
final class Check {
    private final String name;
    private int asked = 0;
    private int wrong = 0;

    Check(String name) {
        this.name = name;
    }

    void due(String call, long got, long want) {
        asked++;
        if (got != want) {
            wrong++;
            System.out.println(name + ": " + call + " answered " + got + ", due is " + want);
        }
    }

    /** The answer of valley() to this text. */
    static int tell(RocketsAsk x, String text) {
        for (int i = 0; i < text.length(); i++) {
            x.letter(text.charAt(i));
        }
        return x.valley();
    }

    /** A new object to which valleys without fault were told, one behind the other. */
    RocketsAsk told(String... texts) {
        RocketsAsk x = new RocketsAsk();
        for (String text : texts) {
            due("valley of " + text, tell(x, text), text.chars().filter(c -> c == ';').count());
        }
        return x;
    }

    /** Everything that the face shows of the valley now; equal texts mean that nothing changed. */
    static String look(RocketsAsk x) {
        StringBuilder all = new StringBuilder();
        for (int what = 0; what <= 7; what++) {
            all.append(x.count(what)).append(' ');
        }
        for (int r = 0; r < x.count(0); r++) {
            for (int what = 0; what <= 8; what++) {
                all.append(x.rocket(r, what)).append(' ');
            }
        }
        for (int r = 0; r < x.count(1); r++) {
            for (int what = 0; what <= 2; what++) {
                all.append(x.reader(r, what)).append(' ');
            }
            for (int word = 0; word <= 5; word++) {
                all.append(x.keeps(r, word)).append(' ');
            }
        }
        return all.toString();
    }

    /** The look, and what hides behind it: wind, row, letters and image; they are used up by it. */
    static String lookThrough(RocketsAsk x) {
        StringBuilder all = new StringBuilder(look(x));
        int wind = x.wind(5);
        x.wind(wind);
        all.append("wind ").append(wind);
        for (int r = 0; r < x.count(0); r++) {
            all.append(" said ").append(x.whatSaid(r, 0)).append(' ').append(x.whatSaid(r, 1));
        }
        all.append(" judged ").append(x.judge());
        all.append(" letters ").append(x.valley()).append(": ").append(look(x));
        all.append("image ").append(x.on()).append(": ").append(look(x));
        return all.append("wind ").append(x.wind(5)).toString();
    }

    static String refusals(RocketsAsk x) {
        StringBuilder all = new StringBuilder();
        for (int what = 11; what <= 16; what++) {
            all.append(x.count(what)).append(' ');
        }
        return all.toString();
    }

    void same(String what, String got, String want) {
        asked++;
        if (!got.equals(want)) {
            wrong++;
            System.out.println(name + ": " + what + " is " + got + ", due is " + want);
        }
    }

    void end() {
        System.out.println(name + ": " + asked + " answers looked at, " + wrong + " not as due");
        if (wrong != 0 || asked == 0) {
            System.exit(1);
        }
    }
}
