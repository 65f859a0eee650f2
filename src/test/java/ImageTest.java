/** Promises 37 to 39: the image, on from it, and what is counted. */
public final class ImageTest {
    private static final Check CHECK = new Check("ImageTest");

    public static void main(String[] args) {
        image();
        imageLeavesTheRest();
        anotherImage();
        count();
        CHECK.end();
    }

    private static void image() {
        RocketsAsk x = CHECK.told("p103;p129;rr21;rd30;w6;g077;s0;n02;");
        CHECK.due("on()", x.on(), -3);
        String then = Check.look(x);
        CHECK.due("image()", x.image(), 2);
        CHECK.same("nothing changed", Check.look(x), then);
        CHECK.due("more", Check.tell(x, "p009;rs33;b0;n05;"), 4);
        x.wind(1);
        x.grant(500);
        x.stands(0, 19);
        x.stands(1, 0);
        x.turn(0, 5, 5);
        x.turn(1, 1, 1);
        x.boxes(1);
        x.nights(60);
        CHECK.due("on()", x.on(), 2);
        CHECK.same("all is as then", Check.look(x), then);
        CHECK.due("wind(6)", x.wind(6), 6);
        CHECK.due("count(0)", x.count(0), 2);
        CHECK.due("rocket(2, 0)", x.rocket(2, 0), -1);
        x.nights(9);
        CHECK.due("once more", x.on(), 2);
        CHECK.same("all is as then", Check.look(x), then);
    }

    private static void imageLeavesTheRest() {
        RocketsAsk x = new RocketsAsk();
        x.row(1);
        x.letter('w');
        CHECK.due("on()", x.on(), -3);
        CHECK.due("image()", x.image(), 0);
        x.row(2);
        x.letter('7');
        x.letter(';');
        x.wind(-1);
        CHECK.due("on()", x.on(), 0);
        CHECK.due("count(6)", x.count(6), 2);
        CHECK.due("count(7)", x.count(7), 3);
        CHECK.same("refusals", Check.refusals(x), "0 0 1 1 0 0 ");
        CHECK.due("valley()", x.valley(), 1);
        CHECK.due("wind(7)", x.wind(7), 7);
        CHECK.due("on()", x.on(), 0);
        CHECK.due("wind(5)", x.wind(5), 5);
    }

    private static void anotherImage() {
        RocketsAsk x = CHECK.told("p103;rr21;");
        x.image();
        x.nights(3);
        CHECK.due("image()", x.image(), 3);
        x.nights(4);
        CHECK.due("count(2)", x.count(2), 7);
        CHECK.due("on()", x.on(), 3);
        CHECK.due("count(2)", x.count(2), 3);
        CHECK.due("count(4)", x.count(4), 1);
        CHECK.due("keeps(0, 1)", x.keeps(0, 1), 1);
        // thinking leaves the image as it is
        x.whole(0);
        x.then(60, 0);
        x.judge();
        CHECK.due("on()", x.on(), 3);
        CHECK.due("keeps(0, 1)", x.keeps(0, 1), 1);
    }

    private static void count() {
        RocketsAsk x = CHECK.told("p109;p102;p193;rs00;rr05;rr01;n01;s2;");
        x.row(5);
        x.letter(1);
        x.letter(2);
        int[] due = {3, 3, 1, 94, 5, 4, 1, 2};
        for (int what = 0; what <= 7; what++) {
            CHECK.due("count(" + what + ")", x.count(what), due[what]);
        }
        for (int what : new int[] {-1, 8, 9, 10, 17, 18, Integer.MIN_VALUE, Integer.MAX_VALUE}) {
            CHECK.due("count(" + what + ")", x.count(what), -9);
        }
        CHECK.same("no refusals", Check.refusals(x), "0 0 0 0 0 0 ");
        x.rocket(9, 0);
        x.rocket(0, 9);
        x.rocket(0, 9);
        for (int i = 0; i < 3; i++) {
            x.boxes(1);
        }
        for (int i = 0; i < 4; i++) {
            x.wind(-1);
        }
        for (int i = 0; i < 6; i++) {
            x.rain(0, 9, 2, 0);
        }
        int[] refusals = {1, 2, 3, 4, 0, 6};
        for (int i = 0; i < 6; i++) {
            CHECK.due("count(" + (11 + i) + ")", x.count(11 + i), refusals[i]);
        }
    }
}
