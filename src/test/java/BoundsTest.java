/** Each number of each call: its bounds are taken, what is just beyond is refused, and nothing changes then. */
public final class BoundsTest {
    private static final int BAD = LongSeats.BAD;
    private static final int FAR_BAD = -1000000000;
    private static final int NONE = LongSeats.NONE;
    private static final Check check = new Check();

    public static void main(String[] args) {
        texts();
        bodies();
        rest();
        whoFits();
        lawAndHours();
        stops();
        roads();
        years();
        trials();
        againstItself();
        patchesOfTheOtherSeat();
        askingChangesNothing();
        whatIsTakenIsKept();
        allCallsOfOneObject();
        check.end("BoundsTest");
    }

    private static Edges edges(String name, long refusal, Edges.Call call) {
        return new Edges(check, name, Scenes::rich, refusal, call);
    }

    private static void texts() {
        edges("write", BAD, (x, a) -> x.write(a[0], 'x')).number("n", 1, 30, 8, 37, 1).ask();
        edges("count", BAD, (x, a) -> x.count(a[0])).number("what", 0, 29, 6, 3, 0).ask();
    }

    private static void bodies() {
        edges("body", BAD, (x, a) -> x.body(a[0], a[1], a[2], a[3], a[4], a[5]))
                .number("weight", 100, 3, 2000, 3, 500)
                .number("leg", 250, 3, 700, 3, 500)
                .number("reach", 400, 3, 1200, 3, 500)
                .number("eye", 400, 3, 1100, 3, 500)
                .number("hip", 200, 3, 700, 3, 500)
                .number("heap", 1, 3, 1000, 3, 500)
                .ask();
        edges("hang", BAD, (x, a) -> x.hang(a[0], a[1], a[2]))
                .number("body", 0, 0, 2, 0, 1)
                .number("patch", 0, 7, 5, 0, 0)
                .number("v", 0, 7, 100, 7, 5)
                .ask();
    }

    private static void rest() {
        edges("level", FAR_BAD, (x, a) -> x.level(a[0], a[1], a[2]))
                .number("body", 0, 80, 2, 60, 0)
                .number("seat", 0, 80, 1, 28, 0)
                .number("part", 0, 80, 1, 1, 0)
                .ask();
        // the second body hangs 7 lower at its first patch: 8 1/2 mm and 1 1/2 mm
        edges("push", BAD, (x, a) -> x.push(a[0], a[1], a[2], a[3]))
                .number("body", 0, 200, 2, 400, 1)
                .number("seat", 0, 85, 1, 100, 0)
                .number("patch", 0, 85, 1, 15, 0)
                .number("part", 0, 85, 1, 1, 0)
                .ask();
        edges("bears", BAD, (x, a) -> x.bears(a[0], a[1], a[2]))
                .number("body", 0, 1, 2, 1, 0)
                .number("seat", 0, 1, 1, 2, 0)
                .number("patch", 0, 1, 1, 1, 0)
                .ask();
        edges("press", BAD, (x, a) -> x.press(a[0], a[1], a[2]))
                .number("body", 0, 200, 2, 400, 0)
                .number("seat", 0, 200, 1, 4000, 0)
                .number("patch", -1, 1, 1, 400, 0)
                .ask();
    }

    private static void whoFits() {
        edges("slack", BAD, (x, a) -> x.slack(a[0])).number("v", 0, 61, 300, 61, 5).ask();
        // the first body: sight from 440 mm on, leg up to 440 mm, reach up to 590 mm
        edges("fits", BAD, (x, a) -> x.fits(a[0], a[1], a[2], a[3]))
                .number("body", 0, 1, 2, 0, 0)
                .number("seat", 0, 1, 1, 0, 0)
                .number("height", -1, 1, 9, 0, 2)
                .number("way", 0, 1, 9, 0, 0)
                .ask();
        edges("fits at some", BAD, (x, a) -> x.fits(a[0], a[1], -1, 0))
                .number("body", 0, 1, 2, 0, 0)
                .number("seat", 0, 1, 1, 1, 0)
                .ask();
        edges("share", BAD, (x, a) -> x.share(a[0], a[1]))
                .number("seats", 0, 0, 3, 40, 1)
                .number("what", 0, 10, 1, 41, 0)
                .ask();
        edges("setting", BAD, (x, a) -> x.setting(a[0], a[1]))
                .number("seat", 0, 20, 1, 0, 0)
                .number("what", 0, 20, 1, 10, 0)
                .ask();
        edges("fewest", BAD, (x, a) -> x.fewest(a[0])).number("x", 1, 1, 1000, NONE, 1).ask();
    }

    private static void lawAndHours() {
        edges("law", BAD, (x, a) -> x.law(a[0], a[1]))
                .number("what", 0, 301, 1, 51, 0)
                .number("v", 0, 301, 20000, 301, 5)
                .ask();
        edges("law of EASE", BAD, (x, a) -> x.law(1, a[0])).number("v", 0, 51, 1000, 51, 5).ask();
        // 99 an hour for the first body in the first seat
        edges("hours", BAD, (x, a) -> x.hours(a[0], a[1], a[2]))
                .number("body", 0, 2, 2, 1, 0)
                .number("seat", 0, 2, 1, 1, 0)
                .number("limit", 1, 1, 100000, NONE, 100)
                .ask();
    }

    private static void stops() {
        edges("stops", BAD, (x, a) -> x.stops(a[0], a[1], a[2], a[3], a[4]))
                .number("body", 0, 4 * 99 - 51, 2, 4 * 499 - 51, 0)
                .number("seat", 0, 4 * 99 - 51, 1, 4 * 3699 - 51, 0)
                .number("t", 1, 99, 12, 12 * 99 - 51, 4)
                .number("k", 0, 4 * 99, 3, 4 * 99 - 3 * 51, 1)
                .number("i", -1, 4 * 99 - 51, Integer.MAX_VALUE, NONE, -1)
                .ask();
        // a STOP that is not there is NONE only where all else is as told
        edges("no such stop", BAD, (x, a) -> x.stops(a[0], a[1], a[2], a[3], 3))
                .number("body", 0, NONE, 2, NONE, 0)
                .number("seat", 0, NONE, 1, NONE, 0)
                .number("t", 1, NONE, 12, NONE, 4)
                .number("k", 0, NONE, 3, NONE, 1)
                .ask();
        LongSeats x = Scenes.rich();
        for (int k = 0; k <= 3; k++) {
            for (int i = 0; i <= 3; i++) {
                check.isTrue("stop " + i + " of " + k, (x.stops(0, 0, 12, k, i) == NONE) == (i >= k));
            }
        }
    }

    private static void roads() {
        edges("road", BAD, (x, a) -> x.road(a[0], a[1], a[2]))
                .number("road", 0, 1000, 3, 0, 0)
                .number("tone", 0, 1000, 3, 0, 0)
                .number("v", 0, 1000, 1000, 1000, 5)
                .ask();
        check.due("the last tone of the last road", Scenes.rich().road(3, 3, 0), 10);
        edges("through", BAD, (x, a) -> x.through(a[0], a[1], a[2], a[3]))
                .number("body", 0, 500, 2, 500, 0)
                .number("seat", 0, 500, 1, 1000, 0)
                .number("road", 0, 500, 3, 0, 0)
                .number("tone", 0, 500, 3, 0, 0)
                .ask();
        check.due("the last tone of the last road", Scenes.rich().through(0, 0, 3, 3), 20);
        // an hour on road 0 is 500 * 500, one on road 3 is 20 * 20
        edges("dose", BAD, (x, a) -> x.dose(a[0], a[1], a[2], a[3], a[4], a[5]))
                .number("body", 0, 250400, 2, 250400, 0)
                .number("seat", 0, 250400, 1, 1000100, 0)
                .number("h0", 0, 400, 24, 24 * 250000 + 400, 1)
                .number("h1", 0, 250400, 24, 250400, 1)
                .number("h2", 0, 250400, 24, 250400, 1)
                .number("h3", 0, 250000, 24, 250000 + 24 * 400, 1)
                .ask();
    }

    private static void years() {
        edges("years", BAD, (x, a) -> x.years(a[0], a[1], a[2], a[3]))
                .number("seat", 0, 1, 1, 2, 1)
                .number("body", 0, 2, 2, 2, 2)
                .number("h", 1, 2, 5000, 2, 1)
                .number("n", 1, 2, 20, 21, 1)
                .ask();
        edges("worn", BAD, (x, a) -> x.worn(a[0], a[1]))
                .number("seat", 0, 0, 1, 2, 0)
                .number("patch", 0, 0, 1, 0, 0)
                .ask();
        // worn by 2, and 4 a year by the last body
        edges("until", BAD, (x, a) -> x.until(a[0], a[1], a[2], a[3]))
                .number("seat", 0, 2, 1, 1, 1)
                .number("body", 0, 1, 2, 1, 2)
                .number("h", 1, NONE, 5000, 1, 5000)
                .number("m", 1, 0, 100, 25, 3)
                .ask();
    }

    private static void trials() {
        edges("trial", BAD, (x, a) -> x.trial(a[0], a[1], a[2]))
                .number("body", 0, 4, 2, 4, 0)
                .number("seat", 0, 4, 1, 4, 0)
                .number("said", 0, 4, 100, 4, 50)
                .ask();
        // of two seats only 0 goes against 1: what is beyond it is the other seat itself
        edges("against", BAD, (x, a) -> x.against(a[0], a[1], a[2]))
                .number("a", 0, 1, 0, 1, 0)
                .number("b", 1, 1, 1, 1, 1)
                .number("what", 0, 1, 3, 1, 0)
                .ask();
        edges("against, the other way", BAD, (x, a) -> x.against(a[0], a[1], a[2]))
                .number("a", 1, 0, 1, 0, 1)
                .number("b", 0, 0, 0, 0, 0)
                .number("what", 0, 0, 3, 2, 0)
                .ask();
        edges("score", FAR_BAD, (x, a) -> x.score(a[0], a[1]))
                .number("seat", 0, 10, 1, -10, 0)
                .number("part", 0, 10, 1, 1, 0)
                .ask();
    }

    private static void againstItself() {
        LongSeats x = Scenes.rich();
        for (int what = 0; what <= 3; what++) {
            check.due("0 against itself", x.against(0, 0, what), BAD);
            check.due("1 against itself", x.against(1, 1, what), BAD);
        }
        check.due("a 2", x.against(2, 0, 0), BAD);
        check.due("b -1", x.against(0, -1, 0), BAD);
        check.same("behind against itself", State.of(x), State.of(Scenes.rich()));
    }

    /** The second seat has one patch: what the first one has more is none of its own. */
    private static void patchesOfTheOtherSeat() {
        LongSeats x = Scenes.rich();
        check.due("push", x.push(0, 1, 1, 0), BAD);
        check.due("bears", x.bears(0, 1, 1), BAD);
        check.due("press", x.press(0, 1, 1), BAD);
        check.due("worn", x.worn(1, 1), BAD);
        check.due("hang, for whichever seat", x.hang(0, 5, 1), 0);
    }

    private static void askingChangesNothing() {
        LongSeats x = Scenes.rich();
        for (int seat = 0; seat <= 1; seat++) {
            x.level(0, seat, 0);
            x.push(1, seat, 0, 0);
            x.bears(2, seat, 0);
            x.press(2, seat, -1);
            x.fits(1, seat, -1, 0);
            x.setting(seat, 0);
            x.hours(0, seat, 1);
            x.stops(1, seat, 12, 3, 0);
            x.through(2, seat, 0, 0);
            x.dose(2, seat, 24, 24, 24, 24);
            x.worn(seat, 0);
            x.until(seat, 2, 5000, 100);
            x.against(seat, 1 - seat, 3);
            x.score(seat, 0);
            x.share(3, 0);
            x.fewest(1000);
            x.count(5);
            x.fault();
        }
        check.same("behind asking", State.of(x), State.of(Scenes.rich()));
    }

    /** What a call that sets a number took at its bounds is what the next one tells. */
    private static void whatIsTakenIsKept() {
        LongSeats x = Scenes.rich();
        for (int v : new int[] {0, 300}) {
            x.slack(v);
            check.due("slack " + v, x.slack(5), v);
        }
        for (int v : new int[] {0, 20000}) {
            x.law(0, v);
            check.due("MARK " + v, x.law(0, 5), v);
        }
        for (int v : new int[] {0, 1000}) {
            x.law(1, v);
            check.due("EASE " + v, x.law(1, 5), v);
        }
        for (int i = 0; i < 16; i++) {
            x.road(i / 4, i % 4, i == 0 ? 0 : 985 + i);
        }
        for (int i = 0; i < 16; i++) {
            check.due("road " + i / 4 + ", " + i % 4, x.road(i / 4, i % 4, 0), i == 0 ? 0 : 985 + i);
        }
        for (int i = 0; i < 18; i++) {
            x.hang(i / 6, i % 6, i == 0 ? 0 : 83 + i);
        }
        for (int i = 0; i < 18; i++) {
            check.due("hang " + i / 6 + ", " + i % 6, x.hang(i / 6, i % 6, 0), i == 0 ? 0 : 83 + i);
        }
    }

    /** An object answers as told up to its 512th call. */
    private static void allCallsOfOneObject() {
        LongSeats x = new LongSeats();
        for (int call = 1; call <= 510; call++) {
            check.due("write or wipe", call % 38 == 0 ? x.wipe() : x.write(8, 0), call % 38 == 0 ? 296 : call % 38 * 8);
        }
        check.due("call 511", x.wipe(), 510 % 38 * 8);
        check.due("call 512", x.fault(), NONE);
    }
}
