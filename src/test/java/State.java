import java.util.ArrayList;
import java.util.List;

/** All that calls can tell of an object, to see whether a refused call has changed anything; it spends the object. */
final class State {
    private final LongSeats x;
    private final List<String> seen = new ArrayList<>();
    private final int bodies;
    private final int seats;

    private State(LongSeats x) {
        this.x = x;
        bodies = x.count(4);
        seats = x.count(2);
    }

    static List<String> of(LongSeats x) {
        State state = new State(x);
        state.counts();
        state.rests();
        state.people();
        state.seatsAndTrials();
        state.takeNumbers();
        state.goOn();
        state.layAnew();
        return state.seen;
    }

    private void see(String call, long answer) {
        seen.add(call + " = " + answer);
    }

    private void counts() {
        for (int what = 0; what <= 6; what++) {
            see("count(" + what + ")", x.count(what));
        }
        see("fault()", x.fault());
    }

    private void rests() {
        for (int b = 0; b < bodies; b++) {
            rest(b, 0);
        }
        for (int s = 1; s < seats; s++) {
            rest(0, s);
        }
    }

    private void rest(int b, int s) {
        String of = "(" + b + ", " + s + ")";
        see("level above" + of, x.level(b, s, 0));
        see("level below" + of, x.level(b, s, 1));
        see("press" + of, x.press(b, s, 0));
        see("first" + of, x.press(b, s, -1));
        see("hours" + of, x.hours(b, s, 1000));
        see("dose" + of, x.dose(b, s, 1, 2, 3, 4));
    }

    private void people() {
        for (int b = 0; b < bodies; b++) {
            see("fits " + b, x.fits(b, 0, -1, 0));
        }
        see("share", x.share((1 << seats) - 1, 0));
        see("fewest", x.fewest(1));
    }

    private void seatsAndTrials() {
        for (int s = 0; s < seats; s++) {
            see("setting " + s, x.setting(s, 0));
            see("for how many " + s, x.setting(s, 1));
            for (int p = 0; p < 6; p++) {
                see("worn " + s + ", " + p, x.worn(s, p));
            }
            see("score above " + s, x.score(s, 0));
            see("score below " + s, x.score(s, 1));
            see("wins " + s, x.against(0, s, 0));
            see("losses " + s, x.against(0, s, 1));
            see("alike " + s, x.against(0, s, 2));
        }
    }

    /** These tell what a number was only by taking another one. */
    private void takeNumbers() {
        for (int i = 0; i < 6 * bodies; i++) {
            see("hang " + i / 6 + ", " + i % 6, x.hang(i / 6, i % 6, 0));
        }
        for (int i = 0; i < 16; i++) {
            see("road " + i / 4 + ", " + i % 4, x.road(i / 4, i % 4, 0));
        }
        see("slack", x.slack(0));
        see("MARK", x.law(0, 0));
        see("EASE", x.law(1, 0));
    }

    /** How many there were is seen once more from what comes next. */
    private void goOn() {
        for (int s = 0; s < seats; s++) {
            see("years " + s, x.years(s, 0, 1, 1));
        }
        see("body", x.body(100, 250, 400, 400, 200, 1));
        see("trial", x.trial(0, 0, 0));
    }

    private void layAnew() {
        see("lay()", x.lay());
        see("layers", x.count(1));
        see("patches", x.count(3));
        see("level", x.level(0, 0, 0));
        see("setting", x.setting(0, 0));
        see("wipe()", x.wipe());
    }
}
