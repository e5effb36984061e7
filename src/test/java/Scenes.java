/** Objects in which something is so already: for tests of bounds, which need a new one for each call. */
final class Scenes {
    /** In the first seat two patches alike, in the second one that is at its stop below 400. */
    static final String TWO_SEATS = "l50,10;t0,50,100,150,200;l20,20;"
            + "s400,500,1000,450;p0,100,100;p0,100,50;s300,400,900,500;p1,50,10;";
    static final String SEAT = "s100,300,600,200;";
    static final String PATCH = "p0,0,1;";
    /** Five seats of six patches: 300 bytes. */
    static final String LONGEST = "l1,1;" + (SEAT + PATCH.repeat(6)).repeat(5);

    private Scenes() {
    }

    /** Nothing told. */
    static LongSeats empty() {
        return new LongSeats();
    }

    /** Two seats, three bodies, and something in everything that a call could change by mistake. */
    static LongSeats rich() {
        LongSeats x = twoSeats();
        x.hang(1, 0, 7);
        x.hang(2, 5, 100);
        x.slack(61);
        x.law(0, 301);
        x.law(1, 51);
        x.road(0, 0, 1000);
        x.road(3, 3, 10);
        x.trial(0, 0, 80);
        x.trial(0, 1, 60);
        x.trial(1, 1, 30);
        // 800 * 2500 wears by 2 in a seat where one patch bears all
        x.years(1, 2, 2500, 1);
        x.wipe();
        Check.write(x, "l7,9;" + SEAT + "p0,3,5;");
        return x;
    }

    /** The two seats and three bodies alone, all else as it is at first. */
    static LongSeats twoSeats() {
        LongSeats x = new LongSeats();
        Check.layText(x, TWO_SEATS);
        x.body(400, 440, 590, 560, 450, 10);
        x.body(100, 300, 400, 600, 500, 30);
        x.body(800, 700, 1200, 1100, 700, 1);
        return x;
    }

    /** One seat and one body. */
    static LongSeats oneSeat(String text, int weight) {
        LongSeats x = new LongSeats();
        Check.layText(x, text);
        x.body(weight, 300, 500, 500, 300, 1);
        return x;
    }

    static LongSeats seatsAlone() {
        LongSeats x = new LongSeats();
        Check.layText(x, TWO_SEATS);
        return x;
    }

    static LongSeats bodiesAlone() {
        LongSeats x = new LongSeats();
        x.body(400, 440, 590, 560, 450, 10);
        x.body(100, 300, 400, 600, 500, 30);
        return x;
    }

    /** As full as can be: 300 bytes, 12 bodies, 60 trials, 100 years in the first seat. */
    static LongSeats full() {
        LongSeats x = new LongSeats();
        Check.layText(x, LONGEST);
        for (int i = 0; i < 12; i++) {
            x.body(100 + 100 * i, 250 + 40 * i, 400, 400, 200, 1000);
        }
        for (int i = 0; i < 60; i++) {
            x.trial(i % 12, i / 12, i);
        }
        for (int i = 0; i < 5; i++) {
            x.years(0, 11, 5000, 20);
        }
        return x;
    }
}
