/** Promises 17 to 22: law, hours, stops, road, through, dose. */
public final class HurtTest {
    private static final Check check = new Check();

    public static void main(String[] args) {
        law();
        hours();
        stops();
        stopsAlike();
        road();
        through();
        dose();
        wrongNumbers();
        check.end("HurtTest");
    }

    private static LongSeats seatOf(String text, int weight) {
        LongSeats x = new LongSeats();
        Check.layText(x, text);
        x.body(weight, 300, 500, 500, 300, 1);
        return x;
    }

    /** A seat in which the first patch has no press of note, the second one of 400. */
    private static LongSeats pressed() {
        return seatOf("l50,10;s100,300,600,200;p0,100,400;p0,100,100;", 800);
    }

    private static void law() {
        LongSeats x = new LongSeats();
        check.due("MARK at first", x.law(0, 20000), 300);
        check.due("EASE at first", x.law(1, 1000), 50);
        check.due("MARK 20001", x.law(0, 20001), LongSeats.BAD);
        check.due("EASE 1001", x.law(1, 1001), LongSeats.BAD);
        check.due("MARK -1", x.law(0, -1), LongSeats.BAD);
        check.due("EASE -1", x.law(1, -1), LongSeats.BAD);
        check.due("what 2", x.law(2, 0), LongSeats.BAD);
        check.due("what -1", x.law(-1, 0), LongSeats.BAD);
        check.due("MARK", x.law(0, 0), 20000);
        check.due("EASE", x.law(1, 0), 1000);
        check.due("MARK", x.law(0, 1), 0);
        check.due("EASE", x.law(1, 1), 0);
    }

    private static void hours() {
        LongSeats x = pressed();
        check.due("press", x.press(0, 0, 1), 400);
        check.due("1", x.hours(0, 0, 1), 1);
        check.due("100", x.hours(0, 0, 100), 1);
        check.due("101", x.hours(0, 0, 101), 2);
        check.due("2400", x.hours(0, 0, 2400), 24);
        check.due("2401", x.hours(0, 0, 2401), LongSeats.NONE);
        x.law(0, 399);
        check.due("1 an hour", x.hours(0, 0, 24), 24);
        x.law(0, 400);
        check.due("at the mark nothing hurts", x.hours(0, 0, 1), LongSeats.NONE);
        x.law(0, 401);
        check.due("below the mark nothing hurts", x.hours(0, 0, 1), LongSeats.NONE);
        x.law(0, 0);
        check.due("100000", x.hours(0, 0, 100000), LongSeats.NONE);
        check.due("limit 0", x.hours(0, 0, 0), LongSeats.BAD);
        check.due("limit 100001", x.hours(0, 0, 100001), LongSeats.BAD);
        LongSeats hard = seatOf("l1,1;s100,300,600,200;p0,0,1;", 2000);
        check.due("press", hard.press(0, 0, 0), 200000);
        check.due("at once", hard.hours(0, 0, 100000), 1);
    }

    private static void stops(LongSeats x, int t, int k, int worst, int... places) {
        check.due("worst of " + t + ", " + k, x.stops(0, 0, t, k, -1), worst);
        for (int i = 0; i < places.length; i++) {
            check.due("stop " + i + " of " + t + ", " + k, x.stops(0, 0, t, k, i), places[i]);
        }
        check.due("no more stops", x.stops(0, 0, t, k, places.length), LongSeats.NONE);
        check.due("no such stop", x.stops(0, 0, t, k, Integer.MAX_VALUE), LongSeats.NONE);
    }

    private static void stops() {
        LongSeats x = pressed();
        // 100 an hour of sitting, 50 less an hour of standing
        stops(x, 4, 0, 400);
        stops(x, 4, 1, 350, 1);
        stops(x, 1, 3, 100, 1, 1, 1);
        stops(x, 4, 3, 250, 1, 1, 2);
        x.law(1, 100);
        stops(x, 4, 1, 300, 1);
        stops(x, 12, 3, 900, 1, 2, 3);
        x.law(1, 250);
        stops(x, 4, 1, 200, 2);
        // none of the ease is lost only behind 300, 250 and 300
        stops(x, 12, 3, 450, 3, 5, 8);
        stops(x, 12, 2, 700, 3, 5);
        x.law(1, 1000);
        stops(x, 12, 3, 300, 3, 6, 9);
        stops(x, 12, 1, 600, 6);
        stops(x, 3, 3, 100, 1, 1, 2);
        x.law(1, 0);
        stops(x, 12, 3, 1200, 1, 1, 1);
    }

    private static void stopsAlike() {
        LongSeats x = pressed();
        x.law(0, 20000);
        stops(x, 12, 3, 0, 1, 1, 1);
        stops(x, 12, 1, 0, 1);
        x.law(0, 300);
        x.law(1, 1000);
        // 5 hours by one stop: behind 2 or 3 hours alike
        stops(x, 5, 1, 300, 2);
        stops(x, 5, 2, 200, 1, 3);
    }

    private static void road() {
        LongSeats x = new LongSeats();
        check.due("at first", x.road(3, 3, 1000), 0);
        check.due("of another road", x.road(2, 3, 5), 0);
        check.due("of another tone", x.road(3, 2, 6), 0);
        check.due("what it was", x.road(3, 3, 1), 1000);
        check.due("v -1", x.road(0, 0, -1), LongSeats.BAD);
        check.due("v 1001", x.road(0, 0, 1001), LongSeats.BAD);
        check.due("road -1", x.road(-1, 0, 0), LongSeats.BAD);
        check.due("road 4", x.road(4, 0, 0), LongSeats.BAD);
        check.due("tone -1", x.road(1, -1, 0), LongSeats.BAD);
        check.due("tone 4", x.road(0, 4, 0), LongSeats.BAD);
        check.due("nothing changed", x.road(0, 3, 0), 0);
        check.due("nothing changed", x.road(1, 0, 0), 0);
    }

    private static void through() {
        String head = "l50,10;t0,10,20,30,300;l50,20;t1,40,50,60,7;s100,300,600,200;";
        LongSeats x = seatOf(head + "p0,100,1;p1,100,1;p1,0,1;", 100);
        // pushes 33 1/3 and 66 2/3, and a free one
        for (int tone = 0; tone < 4; tone++) {
            x.road(0, tone, 1000);
        }
        check.due("(10*33+40*66)/99", x.through(0, 0, 0, 0), 300);
        check.due("(20*33+50*66)/99", x.through(0, 0, 0, 1), 400);
        check.due("(30*33+60*66)/99", x.through(0, 0, 0, 2), 500);
        check.due("(300*33+7*66)/99 = 104.67", x.through(0, 0, 0, 3), 1040);
        check.due("no tone", x.through(0, 0, 1, 0), 0);
        x.road(1, 3, 99);
        check.due("104 * 99 / 100, cut", x.through(0, 0, 1, 3), 102);
        LongSeats plain = seatOf("l50,10;s100,300,600,200;p0,100,1;", 100);
        plain.road(0, 0, 1000);
        check.due("100 without", plain.through(0, 0, 0, 0), 1000);
        LongSeats later = seatOf("l50,10;t0,1,1,1,1;t0,200,0,0,0;s100,300,600,200;p0,100,1;", 100);
        later.road(0, 0, 10);
        check.due("told again", later.through(0, 0, 0, 0), 20);
        // both pushes are cut first: 50.5 each of 101, by 100, not by 101
        LongSeats cut = seatOf("l50,10;t0,101,0,0,0;l50,10;t1,0,0,0,0;s100,300,600,200;p0,100,1;p1,100,1;", 101);
        cut.road(0, 0, 1000);
        check.due("101*50/100", cut.through(0, 0, 0, 0), 500);
        // pushes 99 and 1
        LongSeats edge = seatOf("l50,99;t0,1,0,0,0;l50,1;t1,0,0,0,0;s100,300,600,200;p0,100,1;p1,100,1;", 100);
        edge.road(0, 0, 1000);
        check.due("99/100, cut", edge.through(0, 0, 0, 0), 0);
    }

    private static void dose() {
        LongSeats x = seatOf("l50,10;s100,300,600,200;p0,100,1;", 100);
        x.road(0, 0, 1);
        x.road(0, 1, 2);
        x.road(0, 2, 3);
        x.road(0, 3, 4);
        x.road(1, 0, 10);
        x.road(2, 1, 100);
        x.road(3, 2, 1000);
        check.due("road 0", x.dose(0, 0, 1, 0, 0, 0), 30);
        check.due("all", x.dose(0, 0, 1, 2, 3, 4), 30 + 2 * 100 + 3 * 10000 + 4 * 1000000);
        check.due("none", x.dose(0, 0, 0, 0, 0, 0), 0);
        LongSeats most = seatOf("l50,10;t0,300,300,300,300;s100,300,600,200;p0,100,1;", 100);
        for (int i = 0; i < 16; i++) {
            most.road(i / 4, i % 4, 1000);
        }
        check.due("beyond an int", most.dose(0, 0, 24, 24, 24, 24), 3456000000L);
    }

    private static void wrongNumbers() {
        LongSeats x = pressed();
        int[] wrong = {-2, 25, Integer.MIN_VALUE, Integer.MAX_VALUE};
        for (int v : wrong) {
            check.due("hours body", x.hours(v, 0, 1), LongSeats.BAD);
            check.due("hours seat", x.hours(0, v, 1), LongSeats.BAD);
            check.due("stops body", x.stops(v, 0, 1, 1, 0), LongSeats.BAD);
            check.due("stops seat", x.stops(0, v, 1, 1, 0), LongSeats.BAD);
            check.due("stops t", x.stops(0, 0, v, 1, 0), LongSeats.BAD);
            check.due("stops k", x.stops(0, 0, 1, v, 0), LongSeats.BAD);
            check.due("through body", x.through(v, 0, 0, 0), LongSeats.BAD);
            check.due("through seat", x.through(0, v, 0, 0), LongSeats.BAD);
            check.due("through road", x.through(0, 0, v, 0), LongSeats.BAD);
            check.due("through tone", x.through(0, 0, 0, v), LongSeats.BAD);
            check.due("dose body", x.dose(v, 0, 0, 0, 0, 0), LongSeats.BAD);
            check.due("dose seat", x.dose(0, v, 0, 0, 0, 0), LongSeats.BAD);
            check.due("dose h0", x.dose(0, 0, v, 0, 0, 0), LongSeats.BAD);
            check.due("dose h1", x.dose(0, 0, 0, v, 0, 0), LongSeats.BAD);
            check.due("dose h2", x.dose(0, 0, 0, 0, v, 0), LongSeats.BAD);
            check.due("dose h3", x.dose(0, 0, 0, 0, 0, v), LongSeats.BAD);
        }
        check.due("stops t 0", x.stops(0, 0, 0, 1, 0), LongSeats.BAD);
        check.due("stops t 13", x.stops(0, 0, 13, 1, 0), LongSeats.BAD);
        check.due("stops k -1", x.stops(0, 0, 1, -1, -1), LongSeats.BAD);
        check.due("stops k 4", x.stops(0, 0, 1, 4, 0), LongSeats.BAD);
        check.due("stops i -2", x.stops(0, 0, 1, 1, -2), LongSeats.BAD);
        check.due("BAD ahead of NONE", x.stops(1, 0, 1, 1, 1), LongSeats.BAD);
        check.due("road 4", x.through(0, 0, 4, 0), LongSeats.BAD);
        check.due("tone 4", x.through(0, 0, 0, 4), LongSeats.BAD);
        check.due("h -1", x.dose(0, 0, 0, 0, -1, 0), LongSeats.BAD);
    }
}
