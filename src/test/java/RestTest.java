/** Promises 8 to 11: level, push, bears, press. */
public final class RestTest {
    private static final int FAR_BAD = -1000000000;
    private static final Check check = new Check();

    public static void main(String[] args) {
        onePatch();
        pieceByPiece();
        twoPatches();
        lowestTerms();
        fartherEdges();
        first();
        wrongNumbers();
        check.end("RestTest");
    }

    private static LongSeats seatOf(String text, int weight) {
        LongSeats x = new LongSeats();
        Check.layText(x, text);
        x.body(weight, 300, 500, 500, 300, 1);
        return x;
    }

    private static void level(LongSeats x, int above, int below) {
        check.due("level above", x.level(0, 0, 0), above);
        check.due("level below", x.level(0, 0, 1), below);
    }

    private static void push(LongSeats x, int patch, int above, int below) {
        check.due("push above", x.push(0, 0, patch, 0), above);
        check.due("push below", x.push(0, 0, patch, 1), below);
    }

    private static void onePatch() {
        LongSeats x = seatOf("l50,10;s100,300,600,200;p0,100,7;", 105);
        level(x, 179, 2);
        push(x, 0, 105, 1);
        check.due("bears", x.bears(0, 0, 0), 1);
        check.due("press is cut", x.press(0, 0, 0), 1500);
        x.hang(0, 0, 40);
        level(x, 259, 2);
        x.hang(0, 1, 40);
        level(x, 259, 2);
    }

    private static void pieceByPiece() {
        String text = "l10,10,10,20,5,40,5,200;s100,300,600,200;p0,100,1;";
        LongSeats whole = seatOf(text, 100);
        level(whole, 90, 1);
        check.due("press of a whole push by an area of 1", whole.press(0, 0, 0), 10000);
        level(seatOf(text, 300), 80, 1);
        level(seatOf(text, 500), 75, 1);
        level(seatOf(text, 700), 74, 1);
        LongSeats ahead = seatOf(text, 1499);
        level(ahead, 14001, 200);
        check.due("just ahead of its stop", ahead.bears(0, 0, 0), 1);
        LongSeats stop = seatOf(text, 1500);
        level(stop, 70, 1);
        check.due("just at its stop", stop.bears(0, 0, 0), 2);
        LongSeats beyond = seatOf(text, 1501);
        level(beyond, 69999, 1000);
        check.due("beyond its stop", beyond.bears(0, 0, 0), 2);
    }

    private static void twoPatches() {
        String text = "l20,10;s100,300,600,200;p0,100,100;p0,90,100;";
        LongSeats one = seatOf(text, 100);
        level(one, 90, 1);
        check.due("bears", one.bears(0, 0, 0), 1);
        check.due("touched is free", one.bears(0, 0, 1), 0);
        push(one, 1, 0, 1);
        LongSeats two = seatOf(text, 101);
        level(two, 1799, 20);
        push(two, 0, 201, 2);
        push(two, 1, 1, 2);
        check.due("now it bears", two.bears(0, 0, 1), 1);
        check.due("press, cut to nothing", two.press(0, 0, 1), 0);
        check.due("press", two.press(0, 0, 0), 100);
        LongSeats stopped = seatOf(text, 2000);
        check.due("at its stop", stopped.bears(0, 0, 0), 2);
        check.due("bears ahead of it", stopped.bears(0, 0, 1), 1);
    }

    private static void lowestTerms() {
        LongSeats x = seatOf("l100,3;l100,6;s100,300,600,200;p0,200,3;p1,200,7;", 100);
        level(x, 1700, 9);
        push(x, 0, 100, 3);
        push(x, 1, 200, 3);
        check.due("press of a fraction", x.press(0, 0, 0), 1111);
        check.due("press of a fraction", x.press(0, 0, 1), 952);
    }

    private static void fartherEdges() {
        LongSeats low = seatOf("l100,1,100,1,100,1,100,1;s100,300,600,200;p0,0,1;", 2000);
        level(low, -2008, 5);
        check.due("greatest press", low.press(0, 0, 0), 200000);
        LongSeats high = seatOf("l1,200;s100,300,600,200;" + "p0,200,400;".repeat(6), 100);
        for (int patch = 0; patch < 6; patch++) {
            high.hang(0, patch, 100);
        }
        level(high, 3599, 12);
        push(high, 5, 50, 3);
        LongSeats worn = seatOf("l1,1;s100,300,600,200;p0,0,1;", 2000);
        for (int i = 0; i < 5; i++) {
            worn.years(0, 0, 5000, 20);
        }
        check.due("worn out", worn.worn(0, 0), 100);
        level(worn, -102999, 1000);
        LongSeats stops = seatOf("l1,1;s100,300,600,200;" + "p0,0,1;".repeat(6), 1999);
        level(stops, -7993, 6000);
        push(stops, 3, 1999, 6);
    }

    private static void first() {
        LongSeats x = seatOf("l50,10;s100,300,600,200;p0,100,50;p0,100,40;p0,100,40;", 300);
        check.due("first is the lowest of several", x.press(0, 0, -1), 1);
        LongSeats cut = seatOf("l50,10;l50,11;s100,300,600,200;p0,100,400;p1,100,400;", 105);
        check.due("alike when cut", cut.press(0, 0, 0), cut.press(0, 0, 1) - 1);
        LongSeats same = seatOf("l50,100;l50,101;s100,300,600,200;p0,100,400;p1,100,400;", 100);
        check.due("cut", same.press(0, 0, 0), 12);
        check.due("cut", same.press(0, 0, 1), 12);
        check.due("presses alike when cut", same.press(0, 0, -1), 0);
    }

    private static void wrongNumbers() {
        LongSeats x = seatOf("l50,10;s100,300,600,200;p0,100,1;p0,100,1;", 100);
        int[] wrong = {-2, 2, 1000, Integer.MIN_VALUE, Integer.MAX_VALUE};
        for (int v : wrong) {
            check.due("level body", x.level(v, 0, 0), FAR_BAD);
            check.due("level seat", x.level(0, v, 0), FAR_BAD);
            check.due("level part", x.level(0, 0, v), FAR_BAD);
            check.due("push body", x.push(v, 0, 0, 0), LongSeats.BAD);
            check.due("push seat", x.push(0, v, 0, 0), LongSeats.BAD);
            check.due("push patch", x.push(0, 0, v, 0), LongSeats.BAD);
            check.due("push part", x.push(0, 0, 0, v), LongSeats.BAD);
            check.due("bears body", x.bears(v, 0, 0), LongSeats.BAD);
            check.due("bears seat", x.bears(0, v, 0), LongSeats.BAD);
            check.due("bears patch", x.bears(0, 0, v), LongSeats.BAD);
            check.due("press body", x.press(v, 0, 0), LongSeats.BAD);
            check.due("press seat", x.press(0, v, 0), LongSeats.BAD);
            check.due("press patch", x.press(0, 0, v), LongSeats.BAD);
            check.due("first, body", x.press(v, 0, -1), LongSeats.BAD);
            check.due("first, seat", x.press(0, v, -1), LongSeats.BAD);
        }
        check.due("push patch -1", x.push(0, 0, -1, 0), LongSeats.BAD);
        check.due("bears patch -1", x.bears(0, 0, -1), LongSeats.BAD);
        check.due("body 1", x.level(1, 0, 0), FAR_BAD);
        check.due("seat 1", x.level(0, 1, 0), FAR_BAD);
    }
}
