/** Each number and each "at most" of a TEXT: taken at its bounds, a FAULT just beyond, and nothing is LAID then. */
public final class TextBoundsTest {
    private static final int NO = LongSeats.NO;
    private static final int NONE = LongSeats.NONE;
    private static final Check check = new Check();

    public static void main(String[] args) {
        numbersOfLayers();
        numbersOfTones();
        numbersOfSeats();
        numbersOfPatches();
        figures();
        howManyNumbers();
        howManyPieces();
        howManyLayers();
        howManySeats();
        howManyPatches();
        layersToldAhead();
        seatToldAhead();
        bytesOfNumbers();
        whereItemsEnd();
        firstFaultOfSeveral();
        numbersOfAnotherText();
        seatsWithoutPatches();
        layerEffects();
        toneEffects();
        seatEffects();
        patchEffects();
        check.end("TextBoundsTest");
    }

    private static void good(String text) {
        check.due("fault of " + text, Check.faultOf(text), NONE);
    }

    /** Head and tail are as told; what is between them is not. */
    private static void faulty(String head, String item, String tail) {
        String text = head + item + tail;
        good(head);
        check.due("fault of " + text, Check.faultOf(text), head.length());
        notLaid(text);
    }

    /** The text is refused, and all is as it was ahead of it. */
    private static void notLaid(String text) {
        LongSeats x = withText(text);
        check.due("lay of " + text, x.lay(), NO);
        check.same("behind lay of " + text, State.of(x), State.of(withText(text)));
        LongSeats y = withText(text);
        y.lay();
        y.wipe();
        LongSeats z = withText(text);
        z.wipe();
        check.same("behind lay and wipe of " + text, State.of(y), State.of(z));
    }

    private static LongSeats withText(String text) {
        LongSeats x = Scenes.rich();
        x.wipe();
        Check.write(x, text);
        return x;
    }

    /** A number of an item (# in it), from least to most. */
    private static void number(String head, String item, int least, int most) {
        good(head + item.replace("#", "" + least));
        good(head + item.replace("#", "" + most));
        if (least > 0) {
            faulty(head, item.replace("#", "" + (least - 1)), "l1,1;");
        }
        faulty(head, item.replace("#", "" + (most + 1)), "l1,1;");
        faulty(head, item.replace("#", "9999"), "");
        faulty(head, item.replace("#", "-1"), "");
    }

    private static void numbersOfLayers() {
        for (String head : new String[] {"", "l1,1;" + Scenes.SEAT + Scenes.PATCH}) {
            number(head, "l#,1;", 1, 100);
            number(head, "l1,#;", 1, 200);
            number(head, "l2,2,#,2;", 1, 100);
            number(head, "l2,2,2,#;", 1, 200);
            number(head, "l2,2,2,2,#,2;", 1, 100);
            number(head, "l2,2,2,2,2,#;", 1, 200);
            number(head, "l2,2,2,2,2,2,#,2;", 1, 100);
            number(head, "l2,2,2,2,2,2,2,#;", 1, 200);
            // a piece may be harder than any is long, whatever comes behind it
            number(head, "l2,#,2,2,2,2,2,2;", 1, 200);
            number(head, "l2,2,2,#,2,2,2,2;", 1, 200);
            number(head, "l2,2,2,2,2,#,2,2;", 1, 200);
        }
    }

    private static void numbersOfTones() {
        number("l1,1;l1,1;", "t#,0,0,0,0;", 0, 1);
        number("l1,1;", "t0,#,0,0,0;", 0, 300);
        number("l1,1;", "t0,0,#,0,0;", 0, 300);
        number("l1,1;", "t0,0,0,#,0;", 0, 300);
        number("l1,1;", "t0,0,0,0,#;", 0, 300);
    }

    private static void numbersOfSeats() {
        number("l1,1;", "s#,300,600,200;", 100, 600);
        number("l1,1;", "s100,#,600,200;", 300, 900);
        number("l1,1;", "s100,300,#,200;", 600, 1600);
        number("l1,1;", "s100,300,600,#;", 200, 700);
    }

    private static void numbersOfPatches() {
        String head = "l1,1;l1,1;l1,1;" + Scenes.SEAT;
        number(head, "p#,0,1;", 0, 2);
        number(head, "p0,#,1;", 0, 200);
        number(head, "p0,0,#;", 1, 400);
    }

    private static void figures() {
        String head = "l1,1;" + Scenes.SEAT;
        String[] items = {"l#,1;", "l1,#;", "t#,1,1,1,1;", "t0,#,1,1,1;", "t0,1,1,1,#;", "p#,1,1;", "p0,#,1;", "p0,1,#;"};
        for (String item : items) {
            String one = item.startsWith("t#") || item.startsWith("p#") ? "0" : "1";
            faulty(head, item.replace("#", ""), "");
            good(head + item.replace("#", one));
            good(head + item.replace("#", "0" + one));
            good(head + item.replace("#", "00" + one));
            good(head + item.replace("#", "000" + one));
            faulty(head, item.replace("#", "0000" + one), "");
        }
        good(head + "s0100,0300,0600,0200;");
        faulty(head, "s00100,300,600,200;", "");
        faulty(head, "s100,300,600,00200;", "");
        // as many figures as would be a small number again if they ran over
        faulty("", "l4294967297,1;", "");
        faulty("", "l18446744073709551617,1;", "");
    }

    private static void howManyNumbers() {
        String head = "l1,1;" + Scenes.SEAT;
        faulty(head, "l;", "");
        faulty(head, "l1;", "");
        faulty(head, "t0,1,1,1;", "");
        faulty(head, "t0,1,1,1,1,1;", "");
        faulty(head, "s100,300,600;", "");
        faulty(head, "s100,300,600,200,200;", "");
        faulty(head, "p0,1;", "");
        faulty(head, "p0,1,1,1;", "");
    }

    private static void howManyPieces() {
        StringBuilder pieces = new StringBuilder("l1,1");
        for (int n = 1; n <= 4; n++) {
            good(pieces + ";");
            faulty("", pieces + ",1;", "");
            pieces.append(",1,1");
        }
        faulty("", pieces + ";", "");
        faulty("l1,1;", pieces + ";", "l1,1;");
    }

    private static void howManyLayers() {
        good("l1,1;".repeat(8));
        faulty("l1,1;".repeat(8), "l1,1;", "");
        String layers = "l1,1;".repeat(8);
        good(layers + Scenes.SEAT + "p7,0,1;t7,1,1,1,1;p0,0,1;");
        faulty(layers + Scenes.SEAT, "l1,1;", Scenes.PATCH);
        faulty(layers + Scenes.SEAT, "p8,0,1;", "");
        faulty(layers, "t8,1,1,1,1;", "");
        LongSeats x = new LongSeats();
        check.due("lay", Check.layText(x, layers), 0);
        check.due("8 layers", x.count(1), 8);
    }

    private static void howManySeats() {
        String six = "l1,1;" + (Scenes.SEAT + Scenes.PATCH).repeat(6);
        good(six);
        faulty(six, Scenes.SEAT, Scenes.PATCH);
        LongSeats x = new LongSeats();
        check.due("lay", Check.layText(x, six), 6);
        check.due("6 seats", x.count(2), 6);
        check.due("a patch each", x.count(3), 6);
        check.due("the last seat", x.worn(5, 0), 0);
        check.due("no seat behind it", x.worn(6, 0), LongSeats.BAD);
        check.due("all of them", x.share(63, 0), 0);
        check.due("a set with one more", x.share(64, 0), LongSeats.BAD);
    }

    private static void howManyPatches() {
        String six = "l1,1;" + Scenes.SEAT + Scenes.PATCH.repeat(6);
        good(six);
        faulty(six, Scenes.PATCH, "");
        faulty(six + Scenes.SEAT + Scenes.PATCH.repeat(6), Scenes.PATCH, Scenes.SEAT);
        LongSeats x = new LongSeats();
        check.due("lay", Check.layText(x, six + Scenes.SEAT + Scenes.PATCH.repeat(6)), 2);
        check.due("6 of each", x.count(3), 12);
        check.due("the last patch", x.worn(1, 5), 0);
        check.due("no patch behind it", x.worn(1, 6), LongSeats.BAD);
    }

    private static void layersToldAhead() {
        faulty("", "t0,1,1,1,1;", "l1,1;");
        faulty(Scenes.SEAT, "p0,0,1;", "l1,1;");
        faulty("l1,1;", "t1,1,1,1,1;", "l1,1;");
        faulty("l1,1;" + Scenes.SEAT, "p1,0,1;", "l1,1;");
        good("l1,1;" + Scenes.SEAT + "l1,1;p1,0,1;t1,1,1,1,1;");
        // what is LAID is told ahead by no other text
        LongSeats x = Scenes.rich();
        x.wipe();
        Check.write(x, Scenes.SEAT + "p1,0,1;");
        check.due("a layer of what is laid", x.fault(), Scenes.SEAT.length());
        x.wipe();
        Check.write(x, "l1,1;p0,0,1;");
        check.due("a seat of what is laid", x.fault(), 5);
    }

    private static void seatToldAhead() {
        faulty("l1,1;", Scenes.PATCH, Scenes.SEAT);
        LongSeats x = new LongSeats();
        Check.layText(x, "l1,1;" + Scenes.SEAT + Scenes.PATCH + Scenes.SEAT + Scenes.PATCH.repeat(2));
        check.due("the patch of the first", x.worn(0, 1), LongSeats.BAD);
        check.due("the patches of the seat told last", x.worn(1, 1), 0);
    }

    /** Every byte in each place of an item but those that may stand there. */
    private static void bytesOfNumbers() {
        for (int b = 0; b < 256; b++) {
            char sign = (char) b;
            boolean figure = sign >= '0' && sign <= '9';
            place("" + sign + "9,9;", sign == 'l');
            place("l" + sign + ",9;", figure && sign != '0');
            place("l9" + sign + "9;", sign == ',');
            place("l9," + sign + ";", figure && sign != '0');
            place("l9,9" + sign, sign == ';');
        }
    }

    private static void place(String item, boolean so) {
        check.due("fault of " + item, Check.faultOf("l1,1;" + item), so ? NONE : 5);
    }

    private static void whereItemsEnd() {
        String text = "l1,1;t0,1,2,3,4;" + Scenes.SEAT + "p0,0,1;";
        int from = 0;
        for (int n = 0; n <= text.length(); n++) {
            boolean whole = n == 0 || text.charAt(n - 1) == ';';
            from = whole ? n : from;
            check.due("fault of the first " + n, Check.faultOf(text.substring(0, n)), whole ? NONE : from);
        }
    }

    private static void firstFaultOfSeveral() {
        check.due("both wrong", Check.faultOf("l0,1;x"), 0);
        check.due("the second and third", Check.faultOf("l1,1;l1,0;l0,1;"), 5);
        check.due("a seat without patches ahead of it", Check.faultOf(Scenes.SEAT + Scenes.SEAT + "x"), 34);
    }

    /** Numbers of a text that was wiped say nothing of the next one. */
    private static void numbersOfAnotherText() {
        LongSeats x = new LongSeats();
        Check.write(x, "l9999,9999,9999,9999,9999,9999,9999,9999;");
        check.due("a fault", x.fault(), 0);
        x.wipe();
        Check.write(x, "l1,1;t0,0,0,0,0;" + Scenes.SEAT + "p0,0,1;");
        check.due("none", x.fault(), NONE);
        check.due("laid", x.lay(), 1);
        x.wipe();
        Check.write(x, "l1,1,1;");
        check.due("too few of its own", x.fault(), 0);
        check.due("not laid", x.lay(), NO);
    }

    private static void seatsWithoutPatches() {
        String whole = Scenes.SEAT + Scenes.PATCH;
        String[] texts = {"l1,1;" + Scenes.SEAT, "l1,1;" + Scenes.SEAT + whole, "l1,1;" + whole + Scenes.SEAT,
            "l1,1;" + whole + Scenes.SEAT + whole};
        for (String text : texts) {
            good(text);
            notLaid(text);
        }
    }

    private static LongSeats laid(String text, int weight) {
        return Scenes.oneSeat(text, weight);
    }

    private static void level(LongSeats x, int above, int below) {
        check.due("level above", x.level(0, 0, 0), above);
        check.due("level below", x.level(0, 0, 1), below);
    }

    private static void layerEffects() {
        String seat = Scenes.SEAT + "p0,200,1;";
        level(laid("l1,1;" + seat, 100), 200 * 1000 - 1000 - 99, 1000);
        level(laid("l1,200;" + seat, 100), 399, 2);
        level(laid("l100,1;" + seat, 100), 100, 1);
        level(laid("l100,1;" + seat, 101), 99999, 1000);
        level(laid("l100,200;" + seat, 2000), 190, 1);
        // four pieces of 100 mm at 1, 2, 3 and 4 for each: 1000 together
        String four = "l100,1,100,2,100,3,100,4;" + seat;
        level(laid(four, 100), 100, 1);
        level(laid(four, 300), 0, 1);
        level(laid(four, 600), -100, 1);
        level(laid(four, 999), -799, 4);
        level(laid(four, 1000), -200, 1);
        level(laid(four, 1001), -200001, 1000);
    }

    private static void toneEffects() {
        for (int tone = 0; tone < 4; tone++) {
            for (int lets : new int[] {0, 300}) {
                int[] all = {7, 7, 7, 7};
                all[tone] = lets;
                String item = "t0," + all[0] + "," + all[1] + "," + all[2] + "," + all[3] + ";";
                LongSeats x = laid("l100,10;" + item + Scenes.SEAT + "p0,200,1;", 100);
                for (int t = 0; t < 4; t++) {
                    x.road(0, t, 1000);
                    check.due(item + " tone " + t, x.through(0, 0, 0, t), 10 * all[t]);
                }
            }
        }
    }

    private static void fits(String seat, int[] body, int height, int way, int want) {
        LongSeats x = new LongSeats();
        Check.layText(x, "l1,1;" + seat + "p0,0,1;");
        x.body(500, body[0], body[1], body[2], body[3], 1);
        check.due(seat + " at " + height + ", " + way, x.fits(0, 0, height, way), want);
    }

    private static void seatEffects() {
        // leg, reach, eye, hip
        fits("s100,300,600,200;", new int[] {280, 400, 400, 200}, 9, 0, 1);
        fits("s100,300,600,200;", new int[] {279, 400, 400, 200}, 9, 0, 0);
        fits("s600,300,600,200;", new int[] {600, 400, 400, 200}, 0, 0, 1);
        fits("s600,300,600,200;", new int[] {599, 400, 400, 200}, 0, 0, 0);
        fits("s100,300,600,200;", new int[] {280, 570, 400, 200}, 9, 9, 1);
        fits("s100,300,600,200;", new int[] {280, 569, 400, 200}, 9, 9, 0);
        fits("s100,900,600,200;", new int[] {280, 1170, 400, 200}, 9, 9, 1);
        fits("s100,900,600,200;", new int[] {280, 1169, 400, 200}, 9, 9, 0);
        fits("s200,300,600,200;", new int[] {250, 400, 400, 200}, 0, 0, 1);
        fits("s199,300,600,200;", new int[] {250, 400, 400, 200}, 0, 0, 0);
        fits("s500,300,1600,200;", new int[] {500, 400, 1100, 200}, 0, 0, 1);
        fits("s500,300,1600,200;", new int[] {500, 400, 1099, 200}, 0, 0, 0);
        fits("s250,300,600,200;", new int[] {250, 400, 400, 201}, 0, 0, 0);
        fits("s250,300,600,700;", new int[] {250, 400, 400, 700}, 0, 0, 1);
        fits("s250,300,600,699;", new int[] {250, 400, 400, 700}, 0, 0, 0);
    }

    private static void patchEffects() {
        level(laid("l100,10;" + Scenes.SEAT + "p0,0,1;", 100), -10, 1);
        level(laid("l100,10;" + Scenes.SEAT + "p0,200,1;", 100), 190, 1);
        check.due("by an area of 1", laid("l100,10;" + Scenes.SEAT + "p0,0,1;", 100).press(0, 0, 0), 10000);
        check.due("by an area of 400", laid("l100,10;" + Scenes.SEAT + "p0,0,400;", 100).press(0, 0, 0), 25);
        check.due("and cut", laid("l100,10;" + Scenes.SEAT + "p0,0,399;", 103).press(0, 0, 0), 25);
        StringBuilder layers = new StringBuilder();
        for (int i = 1; i <= 8; i++) {
            layers.append("l100,").append(10 * i).append(';');
        }
        for (int i = 0; i < 8; i++) {
            level(laid(layers + Scenes.SEAT + "p" + i + ",0,1;", 100 * (i + 1)), -10, 1);
        }
    }
}
