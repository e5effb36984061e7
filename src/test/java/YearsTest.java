/** Promises 23 to 25: years, worn, until. */
public final class YearsTest {
    private static final Check check = new Check();

    public static void main(String[] args) {
        years();
        cutJustBelow();
        restAnewEachYear();
        wornOut();
        until();
        untilBeyondHundredYears();
        wrongNumbers();
        check.end("YearsTest");
    }

    private static LongSeats seatOf(String text, int... weights) {
        LongSeats x = new LongSeats();
        Check.layText(x, text);
        for (int weight : weights) {
            x.body(weight, 300, 500, 500, 300, 1);
        }
        return x;
    }

    private static void years() {
        LongSeats x = seatOf("l50,20;s100,300,600,200;p0,100,1;s100,300,600,200;p0,100,1;", 400, 399);
        check.due("400 * 2499 / 1000000", x.years(0, 0, 2499, 20), 20);
        check.due("cut each year", x.worn(0, 0), 0);
        check.due("400 * 2500 / 1000000", x.years(0, 0, 2500, 1), 21);
        check.due("worn", x.worn(0, 0), 1);
        check.due("399 * 2500 / 1000000", x.years(0, 1, 2500, 1), 22);
        check.due("worn", x.worn(0, 0), 1);
        check.due("399 * 5000 / 1000000", x.years(0, 1, 5000, 1), 23);
        check.due("worn", x.worn(0, 0), 2);
        check.due("another seat", x.worn(1, 0), 0);
        check.due("its years", x.years(1, 0, 1, 1), 1);
        check.due("level of the worn seat", x.level(0, 0, 0), 78);
        for (int had = 43; had <= 83; had += 20) {
            check.due("years", x.years(0, 0, 1, 20), had);
        }
        check.due("18 beyond 83", x.years(0, 0, 5000, 18), LongSeats.FULL);
        check.due("nothing changed", x.worn(0, 0), 2);
        check.due("17 beyond 83", x.years(0, 0, 1, 17), 100);
        check.due("one beyond 100", x.years(0, 0, 1, 1), LongSeats.FULL);
        check.due("BAD ahead of FULL", x.years(0, 0, 1, 21), LongSeats.BAD);
        check.due("another seat has years left", x.years(1, 0, 1, 20), 21);
    }

    private static void cutJustBelow() {
        LongSeats x = seatOf("l50,20;s100,300,600,200;p0,100,1;", 999);
        check.due("999 * 1001 / 1000000", x.until(0, 0, 1001, 1), LongSeats.NONE);
        check.due("999 * 1002 / 1000000", x.until(0, 0, 1002, 1), 1);
    }

    private static void restAnewEachYear() {
        // the first patch bears all, until it is worn down to the second one
        String text = "l50,100;s100,300,600,200;p0,110,1;p0,100,1;";
        LongSeats x = seatOf(text, 400);
        int first = 0;
        int second = 0;
        for (int year = 1; year <= 20; year++) {
            // both bear 400 at 100 for each mm; the second is 10 mm lower
            int apart = (110 - first) - (100 - second);
            int push = apart >= 4 ? 400 : 200 + 50 * apart;
            first += push * 5000 / 1000000;
            second += (400 - push) * 5000 / 1000000;
            check.due("year", x.years(0, 0, 5000, 1), year);
            check.due("first, year " + year, x.worn(0, 0), first);
            check.due("second, year " + year, x.worn(0, 1), second);
        }
        LongSeats atOnce = seatOf(text, 400);
        check.due("at once", atOnce.years(0, 0, 5000, 20), 20);
        check.due("first", atOnce.worn(0, 0), first);
        check.due("second", atOnce.worn(0, 1), second);
    }

    private static void wornOut() {
        LongSeats x = seatOf("l50,20;s100,300,600,200;p0,100,1;", 1900);
        x.years(0, 0, 5000, 11);
        check.due("9 a year", x.worn(0, 0), 99);
        x.years(0, 0, 5000, 1);
        check.due("100 at most", x.worn(0, 0), 100);
        x.years(0, 0, 5000, 1);
        check.due("100 at most", x.worn(0, 0), 100);
    }

    private static void until() {
        LongSeats x = seatOf("l50,20;s100,300,600,200;p0,100,1;", 400, 1900);
        check.due("2 a year, 1", x.until(0, 0, 5000, 1), 1);
        check.due("2 a year, 2", x.until(0, 0, 5000, 2), 1);
        check.due("2 a year, 3", x.until(0, 0, 5000, 3), 2);
        check.due("2 a year, 100", x.until(0, 0, 5000, 100), 50);
        check.due("tried only", x.worn(0, 0), 0);
        check.due("none", x.until(0, 0, 1, 1), LongSeats.NONE);
        check.due("1 a year, 100", x.until(0, 0, 2500, 100), 100);
        check.due("just not 1 a year", x.until(0, 0, 2499, 1), LongSeats.NONE);
        check.due("no years went", x.years(0, 0, 5000, 3), 3);
        check.due("6 is so", x.until(0, 0, 5000, 6), 0);
        check.due("6 is so, for whomever", x.until(0, 1, 1, 6), 0);
        check.due("7", x.until(0, 0, 5000, 7), 1);
        LongSeats two = seatOf("l50,20;s100,300,600,200;p0,0,1;p0,200,1;", 400);
        check.due("some patch, not the first", two.until(0, 0, 5000, 60), 30);
    }

    private static void untilBeyondHundredYears() {
        LongSeats x = seatOf("l50,20;s100,300,600,200;p0,100,1;", 400);
        for (int i = 0; i < 5; i++) {
            x.years(0, 0, 1, 20);
        }
        // "tried from now, to 100": a hundred years from now, whatever the seat had
        check.due("from now", x.until(0, 0, 2500, 100), 100);
        check.due("from now", x.until(0, 0, 5000, 3), 2);
    }

    private static void wrongNumbers() {
        LongSeats x = seatOf("l50,20;s100,300,600,200;p0,100,1;p0,100,1;", 400);
        int[] wrong = {-1, -2, 5001, Integer.MIN_VALUE, Integer.MAX_VALUE};
        for (int v : wrong) {
            check.due("years seat", x.years(v, 0, 1, 1), LongSeats.BAD);
            check.due("years body", x.years(0, v, 1, 1), LongSeats.BAD);
            check.due("years h", x.years(0, 0, v, 1), LongSeats.BAD);
            check.due("years n", x.years(0, 0, 1, v), LongSeats.BAD);
            check.due("worn seat", x.worn(v, 0), LongSeats.BAD);
            check.due("worn patch", x.worn(0, v), LongSeats.BAD);
            check.due("until seat", x.until(v, 0, 1, 1), LongSeats.BAD);
            check.due("until body", x.until(0, v, 1, 1), LongSeats.BAD);
            check.due("until h", x.until(0, 0, v, 1), LongSeats.BAD);
            check.due("until m", x.until(0, 0, 1, v), LongSeats.BAD);
        }
        check.due("n 0", x.years(0, 0, 1, 0), LongSeats.BAD);
        check.due("n 21", x.years(0, 0, 1, 21), LongSeats.BAD);
        check.due("h 0", x.years(0, 0, 0, 1), LongSeats.BAD);
        check.due("h 0", x.until(0, 0, 0, 1), LongSeats.BAD);
        check.due("m 0", x.until(0, 0, 1, 0), LongSeats.BAD);
        check.due("m 101", x.until(0, 0, 1, 101), LongSeats.BAD);
        check.due("seat 1", x.worn(1, 0), LongSeats.BAD);
        check.due("patch 2", x.worn(0, 2), LongSeats.BAD);
        check.due("patch 1", x.worn(0, 1), 0);
        check.due("no year went", x.years(0, 0, 1, 1), 1);
    }
}
