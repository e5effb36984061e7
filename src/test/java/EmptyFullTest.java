import java.util.List;

/** Where nothing is told yet, where nothing more has room, and which of several reasons is told. */
public final class EmptyFullTest {
    private static final int BAD = LongSeats.BAD;
    private static final int FAR_BAD = -1000000000;
    private static final int FULL = LongSeats.FULL;
    private static final int NO = LongSeats.NO;
    private static final int NONE = LongSeats.NONE;
    private static final Check check = new Check();

    public static void main(String[] args) {
        newObject();
        noText();
        nothingLaid();
        noBodies();
        noTrials();
        laidAndEmptiedAgain();
        laidAgainAndAgain();
        seatsLaidNoMore();
        bytes();
        longestText();
        twelveBodies();
        hundredYears();
        sixtyTrials();
        badAheadOfFull();
        fullChangesNothing();
        badAheadOfNone();
        faultOrNoPatches();
        check.end("EmptyFullTest");
    }

    /** Calls that need a body and a seat, on an object that lacks one of them. */
    private static void restIsBad(LongSeats x) {
        check.due("level above", x.level(0, 0, 0), FAR_BAD);
        check.due("level below", x.level(0, 0, 1), FAR_BAD);
        check.due("push", x.push(0, 0, 0, 0), BAD);
        check.due("bears", x.bears(0, 0, 0), BAD);
        check.due("press", x.press(0, 0, 0), BAD);
        check.due("first", x.press(0, 0, -1), BAD);
        check.due("fits", x.fits(0, 0, 0, 0), BAD);
        check.due("fits at some", x.fits(0, 0, -1, 0), BAD);
        check.due("hours", x.hours(0, 0, 1), BAD);
        check.due("stops", x.stops(0, 0, 1, 0, -1), BAD);
        check.due("no stop", x.stops(0, 0, 1, 0, 0), BAD);
        check.due("through", x.through(0, 0, 0, 0), BAD);
        check.due("dose", x.dose(0, 0, 0, 0, 0, 0), BAD);
        check.due("years", x.years(0, 0, 1, 1), BAD);
        check.due("until", x.until(0, 0, 1, 1), BAD);
        check.due("trial", x.trial(0, 0, 0), BAD);
        check.due("no trial came", x.count(6), 0);
    }

    private static void seatsAreBad(LongSeats x) {
        check.due("setting", x.setting(0, 0), BAD);
        check.due("for how many", x.setting(0, 1), BAD);
        check.due("worn", x.worn(0, 0), BAD);
        check.due("against", x.against(0, 1, 0), BAD);
        check.due("odds", x.against(0, 1, 3), BAD);
        check.due("score above", x.score(0, 0), FAR_BAD);
        check.due("score below", x.score(0, 1), FAR_BAD);
        check.due("share of a seat", x.share(1, 0), BAD);
        check.due("share of no seat", x.share(0, 0), 0);
    }

    private static void newObject() {
        LongSeats x = Scenes.empty();
        restIsBad(x);
        seatsAreBad(x);
        for (int what = 0; what <= 6; what++) {
            check.due("count " + what, x.count(what), 0);
        }
        check.due("hang", x.hang(0, 0, 0), BAD);
        check.due("of how many", x.share(0, 1), 0);
        check.due("no seats are enough for nobody", x.fewest(1), 0);
        check.due("no seats are enough for nobody", x.fewest(1000), 0);
        check.same("as new", State.of(x), State.of(Scenes.empty()));
        check.due("SLACK at first", Scenes.empty().slack(0), 60);
        check.due("MARK at first", Scenes.empty().law(0, 0), 300);
        check.due("EASE at first", Scenes.empty().law(1, 0), 50);
        for (int i = 0; i < 16; i++) {
            check.due("TONES at first", Scenes.empty().road(i / 4, i % 4, 1), 0);
        }
        LongSeats one = Scenes.oneSeat("l1,1;" + Scenes.SEAT + Scenes.PATCH, 100);
        for (int patch = 0; patch < 6; patch++) {
            check.due("HANG at first", one.hang(0, patch, 1), 0);
        }
        check.due("WORN at first", one.worn(0, 0), 0);
        check.due("YEARS at first", one.years(0, 0, 1, 1), 1);
    }

    private static void noText() {
        LongSeats x = Scenes.empty();
        check.due("fault", x.fault(), NONE);
        check.due("lay", x.lay(), 0);
        check.due("wipe", x.wipe(), 0);
        check.same("as new", State.of(x), State.of(Scenes.empty()));
    }

    private static void nothingLaid() {
        LongSeats x = Scenes.bodiesAlone();
        restIsBad(x);
        seatsAreBad(x);
        check.due("of how many", x.share(0, 1), 40);
        check.due("no seat for anybody", x.fewest(1), NONE);
        check.due("hang", x.hang(1, 5, 100), 0);
        check.due("hang", x.hang(1, 5, 0), 100);
        check.due("people", x.count(5), 40);
        Check.write(x, Scenes.TWO_SEATS);
        check.due("told, not laid", x.level(0, 0, 0), FAR_BAD);
        check.due("told, not laid", x.count(1), 0);
        check.due("nor by asking for its fault", x.fault(), NONE);
        check.due("told, not laid", x.count(2), 0);
        check.due("laid", x.lay(), 2);
        check.due("laid", x.level(0, 0, 0), 80);
    }

    private static void noBodies() {
        LongSeats x = Scenes.seatsAlone();
        restIsBad(x);
        check.due("hang", x.hang(0, 0, 0), BAD);
        check.due("share", x.share(3, 0), 0);
        check.due("of how many", x.share(3, 1), 0);
        check.due("setting", x.setting(1, 0), 0);
        check.due("for how many", x.setting(1, 1), 0);
        check.due("no seats are enough for nobody", x.fewest(1000), 0);
        check.due("worn", x.worn(0, 1), 0);
        check.due("people", x.count(5), 0);
        check.same("as laid", State.of(x), State.of(Scenes.seatsAlone()));
    }

    private static void noTrials() {
        LongSeats x = Scenes.twoSeats();
        check.due("trials", x.count(6), 0);
        check.due("wins", x.against(0, 1, 0), 0);
        check.due("losses", x.against(0, 1, 1), 0);
        check.due("alike", x.against(0, 1, 2), 0);
        check.due("the one way of none", x.against(0, 1, 3), 1);
        for (int seat = 0; seat < 2; seat++) {
            check.due("score above", x.score(seat, 0), 0);
            check.due("score below", x.score(seat, 1), 1);
        }
        check.due("one of one seat alone", x.trial(0, 0, 100), 1);
        check.due("wins", x.against(0, 1, 0), 0);
        check.due("alike", x.against(0, 1, 2), 0);
        check.due("score above", x.score(0, 0), 0);
        check.due("score of a seat that nobody tried", x.score(1, 0), 0);
        check.due("score of a seat that nobody tried", x.score(1, 1), 1);
        check.due("said 0 is said", x.trial(0, 1, 0), 2);
        check.due("wins", x.against(0, 1, 0), 1);
        check.due("score above", x.score(1, 0), -50);
    }

    private static void laidAndEmptiedAgain() {
        LongSeats x = Scenes.twoSeats();
        x.wipe();
        check.due("an empty text", x.lay(), 0);
        restIsBad(x);
        seatsAreBad(x);
        check.due("layers", x.count(1), 0);
        check.due("patches", x.count(3), 0);
        check.due("bodies stay", x.count(4), 3);
        check.due("nobody fits", x.fewest(1), NONE);
    }

    /** Nothing of a seat or a layer stays, however often another one is laid in its place. */
    private static void laidAgainAndAgain() {
        LongSeats x = Scenes.oneSeat("l10,10,10,20;t0,7,7,7,7;" + Scenes.SEAT + "p0,100,1;", 400);
        x.road(0, 0, 100);
        for (int i = 0; i < 6; i++) {
            check.due("nothing is WORN", x.worn(0, 0), 0);
            check.due("no YEARS", x.years(0, 0, 5000, 1), 1);
            check.due("WORN", x.worn(0, 0), 2);
            boolean plain = i % 3 == 1;
            String layer = plain ? "l50,10;" : "l10,10,10,20;t0,7,7,7,7;";
            check.due("laid", Check.layText(x, layer + Scenes.SEAT + "p0,100,1;"), 1);
            check.due("its own pieces", x.level(0, 0, 0), plain ? 60 : 799);
            check.due("what it lets through", x.through(0, 0, 0, 0), plain ? 100 : 7);
            check.due("one patch", x.count(3), 1);
        }
    }

    /** A seat that fits all is of no help any more when it is laid no more. */
    private static void seatsLaidNoMore() {
        String narrow = "s300,300,600,200;p0,0,1;";
        String wide = "s300,300,600,700;p0,0,1;";
        LongSeats x = new LongSeats();
        x.body(500, 300, 500, 500, 300, 1);
        Check.layText(x, "l1,1;" + narrow + wide);
        check.due("the second", x.fewest(1000), 2);
        check.due("the second", x.share(2, 0), 1);
        Check.layText(x, "l1,1;" + narrow);
        check.due("none", x.fewest(1000), NONE);
        check.due("none", x.fewest(1), NONE);
        check.due("none", x.share(1, 0), 0);
        check.due("no such seat", x.share(2, 0), BAD);
        check.due("no such seat, whatever is asked", x.share(2, 1), BAD);
    }

    private static LongSeats withBytes(int n) {
        LongSeats x = Scenes.rich();
        x.wipe();
        for (int left = n; left > 0; left -= 8) {
            x.write(Math.min(8, left), 0x6c312c313b6c312cL >>> Math.max(0, 64 - 8 * left));
        }
        return x;
    }

    private static void bytes() {
        for (int n = 1; n <= 8; n++) {
            check.due("just room for " + n, withBytes(300 - n).write(n, 'x'), 300);
            LongSeats x = withBytes(301 - n);
            check.due("one byte too many, " + n, x.write(n, 'x'), FULL);
            check.same("none of " + n + " came", State.of(x), State.of(withBytes(301 - n)));
            LongSeats full = withBytes(300);
            check.due("behind 300, " + n, full.write(n, 'x'), FULL);
            check.same("none of " + n + " came", State.of(full), State.of(withBytes(300)));
        }
        LongSeats x = withBytes(300);
        check.due("300", x.count(0), 300);
        check.due("wipe 300", x.wipe(), 300);
        check.due("room again", x.write(8, 0), 8);
    }

    private static void longestText() {
        check.due("its length", Scenes.LONGEST.length(), 300);
        LongSeats x = new LongSeats();
        check.due("written", Check.write(x, Scenes.LONGEST), 300);
        check.due("fault", x.fault(), NONE);
        check.due("lay", x.lay(), 5);
        check.due("patches", x.count(3), 30);
        check.due("the last patch", x.worn(4, 5), 0);
        x.wipe();
        Check.write(x, Scenes.LONGEST.substring(0, 299));
        check.due("its last byte is missing", x.fault(), 293);
        check.due("not laid", x.lay(), NO);
        x.write(1, 'x');
        check.due("its last byte is another", x.fault(), 293);
        check.due("what was laid stays", x.count(3), 30);
        LongSeats faulty = new LongSeats();
        Check.write(faulty, "l1,1;".repeat(8) + Scenes.SEAT.repeat(6) + "t0,0,0,0,0;".repeat(14) + "ltps");
        check.due("300", faulty.count(0), 300);
        check.due("fault in the last four", faulty.fault(), 296);
    }

    private static void twelveBodies() {
        LongSeats x = new LongSeats();
        Check.layText(x, "l100,10;" + Scenes.SEAT + "p0,200,1;");
        for (int i = 0; i < 12; i++) {
            check.due("body " + i, x.body(100 + 10 * i, 250, 400, 400, 200, 1 + i), i);
        }
        check.due("the thirteenth", x.body(100, 250, 400, 400, 200, 1), FULL);
        check.due("12", x.count(4), 12);
        check.due("people", x.count(5), 78);
        for (int i = 0; i < 12; i++) {
            check.due("each as it came, " + i, x.level(i, 0, 0), 190 - i);
            check.due("each hangs by itself, " + i, x.hang(i, 5, i + 1), 0);
        }
        check.due("the last one's", x.hang(11, 5, 0), 12);
        check.due("no body behind it", x.level(12, 0, 0), FAR_BAD);
        check.due("no body behind it", x.hang(12, 0, 0), BAD);
        check.due("no body behind it", x.trial(12, 0, 0), BAD);
        check.due("all fit", x.share(1, 0), 78);
    }

    /** A seat that had so many years already. */
    private static LongSeats worn(int years) {
        LongSeats x = Scenes.rich();
        x.lay();
        for (int left = years; left > 0; left -= 20) {
            x.years(0, 0, 5000, Math.min(20, left));
        }
        return x;
    }

    private static void hundredYears() {
        for (int n = 1; n <= 20; n++) {
            check.due("just room for " + n, worn(100 - n).years(0, 0, 5000, n), 100);
            LongSeats x = worn(101 - n);
            check.due("one year too many, " + n, x.years(0, 0, 5000, n), FULL);
            check.same("none of " + n + " went", State.of(x), State.of(worn(101 - n)));
        }
        LongSeats x = Scenes.full();
        check.due("100 in the first", x.years(0, 0, 1, 1), FULL);
        check.due("the second had none", x.years(1, 0, 1, 20), 20);
        check.due("worn still told", x.worn(0, 0), 100);
        check.due("until still told", x.until(0, 0, 1, 100), 0);
        check.due("laid anew", x.lay(), 5);
        check.due("none had any", x.years(0, 0, 1, 20), 20);
    }

    private static void sixtyTrials() {
        LongSeats x = Scenes.twoSeats();
        for (int i = 1; i <= 59; i++) {
            check.due("trial", x.trial(i % 3, i % 2, i), i);
        }
        check.due("the sixtieth", x.trial(0, 0, 77), 60);
        check.due("one more", x.trial(0, 0, 0), FULL);
        check.due("of another body", x.trial(1, 1, 100), FULL);
        check.due("60", x.count(6), 60);
        // the latest of the first body: 77 of seat 0, 57 of seat 1
        check.due("the sixtieth counts", x.against(0, 1, 0), 2);
        Check.layText(x, "l1,1;" + Scenes.SEAT + Scenes.PATCH);
        check.due("they stay", x.count(6), 60);
        check.due("FULL, whatever is laid", x.trial(0, 0, 0), FULL);
    }

    private static void badAheadOfFull() {
        new Edges(check, "full write", Scenes::full, BAD, (x, a) -> x.write(a[0], 'x'))
                .number("n", 1, FULL, 8, FULL, 1).ask();
        new Edges(check, "full body", Scenes::full, BAD, (x, a) -> x.body(a[0], a[1], a[2], a[3], a[4], a[5]))
                .number("weight", 100, FULL, 2000, FULL, 500)
                .number("leg", 250, FULL, 700, FULL, 500)
                .number("reach", 400, FULL, 1200, FULL, 500)
                .number("eye", 400, FULL, 1100, FULL, 500)
                .number("hip", 200, FULL, 700, FULL, 500)
                .number("heap", 1, FULL, 1000, FULL, 500)
                .ask();
        new Edges(check, "full years", Scenes::full, BAD, (x, a) -> x.years(0, a[0], a[1], a[2]))
                .number("body", 0, FULL, 11, FULL, 0)
                .number("h", 1, FULL, 5000, FULL, 5)
                .number("n", 1, FULL, 20, FULL, 5)
                .ask();
        new Edges(check, "full trial", Scenes::full, BAD, (x, a) -> x.trial(a[0], a[1], a[2]))
                .number("body", 0, FULL, 11, FULL, 0)
                .number("seat", 0, FULL, 4, FULL, 0)
                .number("said", 0, FULL, 100, FULL, 5)
                .ask();
        check.due("no such seat", Scenes.full().years(5, 0, 1, 1), BAD);
        check.due("no such seat", Scenes.full().years(-1, 0, 1, 1), BAD);
    }

    private static void fullChangesNothing() {
        List<String> untouched = State.of(Scenes.full());
        LongSeats x = Scenes.full();
        check.due("write", x.write(8, -1L), FULL);
        check.due("body", x.body(2000, 700, 1200, 1100, 700, 1000), FULL);
        check.due("years", x.years(0, 0, 5000, 20), FULL);
        check.due("trial", x.trial(0, 0, 100), FULL);
        check.same("behind all that is FULL", State.of(x), untouched);
    }

    private static void badAheadOfNone() {
        LongSeats x = Scenes.twoSeats();
        x.law(0, 20000);
        check.due("nothing hurts", x.hours(0, 0, 1), NONE);
        check.due("limit 0", x.hours(0, 0, 0), BAD);
        check.due("limit 100001", x.hours(0, 0, 100001), BAD);
        check.due("no body", x.hours(3, 0, 1), BAD);
        check.due("no seat", x.hours(0, 2, 1), BAD);
        check.due("nothing wears", x.until(0, 0, 1, 1), NONE);
        check.due("h 0", x.until(0, 0, 0, 1), BAD);
        check.due("m 101", x.until(0, 0, 1, 101), BAD);
        check.due("no body", x.until(0, 3, 1, 1), BAD);
        check.due("no seat", x.until(2, 0, 1, 1), BAD);
        check.due("not for all", x.fewest(1000), NONE);
        check.due("beyond all", x.fewest(1001), BAD);
        check.due("no seats for anybody", Scenes.bodiesAlone().fewest(1), NONE);
        check.due("x 0", Scenes.bodiesAlone().fewest(0), BAD);
        check.due("x 0 of nobody", Scenes.empty().fewest(0), BAD);
        check.due("x 1001 of nobody", Scenes.empty().fewest(1001), BAD);
    }

    private static void faultOrNoPatches() {
        LongSeats x = new LongSeats();
        Check.write(x, "l1,1;" + Scenes.SEAT);
        check.due("no FAULT", x.fault(), NONE);
        check.due("a seat without patches", x.lay(), NO);
        check.due("text stays", x.count(0), 22);
        Check.write(x, "x");
        check.due("a FAULT too", x.fault(), 22);
        check.due("both", x.lay(), NO);
        check.due("nothing laid", x.count(1), 0);
        check.due("text stays", x.wipe(), 23);
        check.due("then nothing told", x.lay(), 0);
    }
}
