/** Promises 12 to 16: slack, fits, share, setting, fewest. */
public final class FitTest {
    private static final Check check = new Check();

    public static void main(String[] args) {
        slack();
        fitsAtEdges();
        fitsSomehow();
        fitsSomehowWhateverTheWay();
        fitsWrong();
        share();
        setting();
        fewest();
        fewestNotLeastBits();
        check.end("FitTest");
    }

    private static LongSeats seatsOf(String text) {
        LongSeats x = new LongSeats();
        Check.layText(x, text);
        return x;
    }

    private static void slack() {
        LongSeats x = new LongSeats();
        check.due("at first", x.slack(300), 60);
        check.due("-1", x.slack(-1), LongSeats.BAD);
        check.due("301", x.slack(301), LongSeats.BAD);
        check.due("what it was", x.slack(0), 300);
        check.due("what it was", x.slack(1), 0);
    }

    private static void fits(int leg, int reach, int eye, int hip, int want) {
        // at height 2 (440 mm) and way 3 (590 mm), sight 1000, width 450
        LongSeats x = seatsOf("l1,1;s400,500,1000,450;p0,0,1;");
        x.body(500, leg, reach, eye, hip, 1);
        check.due("fits " + leg + " " + reach + " " + eye + " " + hip, x.fits(0, 0, 2, 3), want);
    }

    private static void fitsAtEdges() {
        fits(440, 590, 560, 450, 1);
        fits(439, 590, 560, 450, 0);
        fits(500, 590, 560, 450, 1);
        fits(501, 590, 560, 450, 0);
        fits(440, 589, 560, 450, 0);
        fits(440, 590, 559, 450, 0);
        fits(440, 590, 560, 451, 0);
        fits(440, 1200, 1100, 200, 1);
    }

    private static void fitsSomehow() {
        LongSeats x = seatsOf("l1,1;s400,500,1000,450;p0,0,1;");
        x.body(500, 580, 500, 420, 450, 1);
        check.due("at the highest alone", x.fits(0, 0, -1, 0), 1);
        check.due("at the highest", x.fits(0, 0, 9, 0), 1);
        check.due("below it", x.fits(0, 0, 8, 0), 0);
        check.due("at another way", x.fits(0, 0, 9, 1), 0);
        check.due("the way does not count", x.fits(0, 0, -1, 9), 1);
        x.body(500, 640, 500, 420, 450, 1);
        check.due("slack's edge", x.fits(1, 0, -1, 0), 1);
        x.body(500, 641, 500, 420, 450, 1);
        check.due("beyond slack", x.fits(2, 0, -1, 0), 0);
        x.body(500, 580, 499, 420, 450, 1);
        check.due("reach", x.fits(3, 0, -1, 0), 0);
        x.body(500, 399, 500, 1000, 450, 1);
        check.due("leg", x.fits(4, 0, -1, 0), 0);
        x.slack(61);
        check.due("more slack", x.fits(2, 0, -1, 0), 1);
    }

    private static void fitsSomehowWhateverTheWay() {
        LongSeats x = seatsOf("l1,1;s400,500,1000,450;p0,0,1;");
        x.body(500, 580, 500, 420, 450, 1);
        x.body(500, 580, 499, 420, 450, 1);
        int[] ways = {-1, 0, 9, 10, -2, Integer.MIN_VALUE, Integer.MAX_VALUE};
        for (int way : ways) {
            check.due("fits at some, way " + way, x.fits(0, 0, -1, way), 1);
            check.due("fits at none, way " + way, x.fits(1, 0, -1, way), 0);
        }
    }

    private static void fitsWrong() {
        LongSeats x = seatsOf("l1,1;s400,500,1000,450;p0,0,1;");
        x.body(500, 440, 590, 560, 450, 1);
        int[] wrong = {-2, 10, Integer.MIN_VALUE, Integer.MAX_VALUE};
        for (int v : wrong) {
            check.due("body", x.fits(v, 0, 0, 0), LongSeats.BAD);
            check.due("seat", x.fits(0, v, 0, 0), LongSeats.BAD);
            check.due("height", x.fits(0, 0, v, 0), LongSeats.BAD);
            check.due("way", x.fits(0, 0, 0, v), LongSeats.BAD);
            check.due("body, at some", x.fits(v, 0, -1, 0), LongSeats.BAD);
            check.due("seat, at some", x.fits(0, v, -1, 0), LongSeats.BAD);
            check.due("share", x.share(v, 0), LongSeats.BAD);
            check.due("share what", x.share(0, v), LongSeats.BAD);
            check.due("setting", x.setting(v, 0), LongSeats.BAD);
            check.due("setting what", x.setting(0, v), LongSeats.BAD);
        }
        check.due("way -1", x.fits(0, 0, 0, -1), LongSeats.BAD);
        check.due("no such body, any way", x.fits(1, 0, -1, -1), LongSeats.BAD);
        check.due("no such seat, any way", x.fits(0, 1, -1, -1), LongSeats.BAD);
        check.due("share of a seat that is not", x.share(2, 0), LongSeats.BAD);
        check.due("share of all bits", x.share(-1, 0), LongSeats.BAD);
        check.due("share what", x.share(1, 2), LongSeats.BAD);
        check.due("setting of a seat that is not", x.setting(1, 0), LongSeats.BAD);
        check.due("setting what", x.setting(0, 2), LongSeats.BAD);
        check.due("setting -1", x.setting(-1, 0), LongSeats.BAD);
        check.due("fewest 0", x.fewest(0), LongSeats.BAD);
        check.due("fewest 1001", x.fewest(1001), LongSeats.BAD);
        check.due("fewest -1", x.fewest(-1), LongSeats.BAD);
    }

    /** Without slack legs must be as long as some height; the last seat is as the first, but narrow. */
    private static LongSeats crowd() {
        LongSeats x = seatsOf("l1,1;"
                + "s100,300,600,700;p0,0,1;" + "s280,300,600,700;p0,0,1;" + "s460,300,600,700;p0,0,1;"
                + "s100,300,600,300;p0,0,1;");
        x.slack(0);
        x.body(500, 260, 500, 500, 300, 100);
        x.body(500, 300, 500, 500, 300, 200);
        x.body(500, 400, 500, 500, 301, 300);
        x.body(500, 460, 500, 500, 700, 400);
        return x;
    }

    private static void share() {
        LongSeats x = crowd();
        check.due("first", x.share(1, 0), 100);
        check.due("second", x.share(2, 0), 900);
        check.due("third", x.share(4, 0), 400);
        check.due("second and third: none twice", x.share(6, 0), 900);
        check.due("all", x.share(15, 0), 1000);
        check.due("none", x.share(0, 0), 0);
        check.due("of how many", x.share(0, 1), 1000);
        check.due("of how many", x.share(15, 1), 1000);
        check.due("seat 3", x.share(8, 0), 100);
        check.due("a seat that is not", x.share(16, 0), LongSeats.BAD);
        LongSeats none = new LongSeats();
        check.due("no seats", none.share(0, 0), 0);
        check.due("no people", none.share(0, 1), 0);
        check.due("no such seat", none.share(1, 0), LongSeats.BAD);
    }

    private static void setting() {
        LongSeats x = seatsOf("l1,1;s400,500,1000,450;p0,0,1;");
        check.due("nobody", x.setting(0, 0), 0);
        check.due("nobody", x.setting(0, 1), 0);
        x.body(500, 520, 620, 560, 450, 10);
        check.due("the lowest that fits: sight and leg", x.setting(0, 0), 30);
        check.due("people", x.setting(0, 1), 10);
        x.body(500, 440, 620, 560, 450, 11);
        check.due("more people", x.setting(0, 0), 20);
        check.due("more people", x.setting(0, 1), 11);
        x.body(500, 480, 500, 520, 450, 1);
        check.due("alike: the lower height", x.setting(0, 0), 20);
        x.body(500, 480, 500, 520, 450, 1);
        check.due("more together", x.setting(0, 0), 40);
        check.due("more together", x.setting(0, 1), 12);
        LongSeats alike = seatsOf("l1,1;s400,500,1000,450;p0,0,1;");
        alike.slack(0);
        alike.body(500, 580, 800, 600, 200, 5);
        alike.body(500, 560, 800, 600, 200, 5);
        check.due("alike: the lower height, the lower way", alike.setting(0, 0), 80);
    }

    private static void fewest() {
        LongSeats x = crowd();
        check.due("least bits of those with one", x.fewest(100), 1);
        check.due("101", x.fewest(101), 2);
        check.due("900", x.fewest(900), 2);
        check.due("901", x.fewest(901), 3);
        check.due("1000", x.fewest(1000), 3);
        x.slack(300);
        check.due("one is enough", x.fewest(400), 1);
        x.body(500, 700, 500, 500, 700, 1);
        x.slack(0);
        check.due("all cannot", x.fewest(1000), LongSeats.NONE);
        check.due("999 of 1001 thousandths", x.fewest(999), 3);
    }

    private static void fewestNotLeastBits() {
        String narrow = "s100,300,600,200;p0,0,1;";
        String low = "s300,300,600,250;p0,0,1;";
        String wide = "s100,300,600,700;p0,0,1;";
        LongSeats x = seatsOf("l1,1;" + narrow + low + wide);
        x.slack(300);
        x.body(500, 280, 500, 600, 200, 10);
        x.body(500, 300, 500, 600, 250, 10);
        check.due("two of one each", x.share(3, 0), 20);
        check.due("one ahead of two with less bits", x.fewest(1000), 4);
        check.due("the least bits of one", x.fewest(500), 1);
        Check.layText(x, "l1,1;" + narrow);
        check.due("a seat laid no more fits nobody", x.fewest(1000), LongSeats.NONE);
    }
}
