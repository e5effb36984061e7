import java.util.Random;

/** All promises: random runs of calls (the same each time) on the class and on a slow model of the document. */
public final class ModelTest {
    private static final int RUNS = 200;
    private static final int CALLS = 300;
    private static final Check check = new Check();

    private final Random random;
    private final LongSeats x = new LongSeats();
    private final SlowModel m = new SlowModel();
    /** Names the run in messages. */
    private final int run;

    private ModelTest(int run) {
        this.run = run;
        random = new Random(run);
    }

    public static void main(String[] args) {
        int runs = args.length > 0 ? Integer.parseInt(args[0]) : RUNS;
        for (int run = 0; run < runs && check.wrongOnes() < 20; run++) {
            new ModelTest(run).go();
        }
        check.end("ModelTest");
    }

    private void go() {
        writeText();
        due("lay()", x.lay(), m.lay());
        for (int i = random.nextInt(7); i > 0; i--) {
            newBody();
        }
        for (int i = 0; i < CALLS; i++) {
            call(random.nextInt(29));
        }
    }

    private void due(String call, long got, long want) {
        check.due("run " + run + ": " + call, got, want);
    }

    private int upTo(int least, int most) {
        int kind = random.nextInt(12);
        if (kind == 0) {
            return least;
        }
        if (kind == 1) {
            return most;
        }
        return least + random.nextInt(most - least + 1);
    }

    /** Mostly in its bounds, now and then at them or beyond. */
    private int some(int least, int most) {
        switch (random.nextInt(60)) {
            case 0:
                return least - 1;
            case 1:
                return most + 1;
            case 2:
                return random.nextInt();
            case 3:
                return random.nextBoolean() ? Integer.MIN_VALUE : Integer.MAX_VALUE;
            default:
                return upTo(least, most);
        }
    }

    private int bodyNumber() {
        return some(0, Math.max(0, m.count(4) - 1));
    }

    private int seatNumber() {
        return some(0, Math.max(0, m.count(2) - 1));
    }

    private void newBody() {
        int[] b = {some(100, 2000), some(250, 700), some(400, 1200), some(400, 1100), some(200, 700), some(1, 1000)};
        due("body(..)", x.body(b[0], b[1], b[2], b[3], b[4], b[5]), m.body(b[0], b[1], b[2], b[3], b[4], b[5]));
    }

    private String newText() {
        StringBuilder text = new StringBuilder();
        int layers = 1 + random.nextInt(3);
        for (int i = 0; i < layers; i++) {
            text.append('l');
            for (int piece = random.nextInt(4); piece >= 0; piece--) {
                text.append(upTo(1, random.nextBoolean() ? 100 : 20)).append(',').append(upTo(1, 200));
                text.append(piece > 0 ? "," : ";");
            }
            if (random.nextInt(3) == 0) {
                text.append('t').append(random.nextInt(i + 1));
                for (int tone = 0; tone < 4; tone++) {
                    text.append(',').append(upTo(0, 300));
                }
                text.append(';');
            }
        }
        for (int i = random.nextInt(5); i >= 0; i--) {
            text.append('s').append(upTo(100, 600)).append(',').append(upTo(300, 900)).append(',');
            text.append(upTo(600, 1600)).append(',').append(upTo(200, 700)).append(';');
            for (int patch = random.nextInt(6); patch >= 0; patch--) {
                text.append('p').append(random.nextInt(layers)).append(',').append(upTo(0, 200)).append(',');
                text.append(upTo(1, 400)).append(';');
            }
        }
        for (int i = random.nextInt(6) - 3; i > 0; i--) {
            spoil(text);
        }
        // cut at an item's end, so that long texts can be laid too
        while (text.length() > 300 && text.lastIndexOf(";", text.length() - 2) > 0) {
            text.setLength(text.lastIndexOf(";", text.length() - 2) + 1);
        }
        return text.toString();
    }

    private void spoil(StringBuilder text) {
        int at = random.nextInt(text.length());
        String signs = "0123456789,,,;;;ltspx\u00ff ";
        char sign = signs.charAt(random.nextInt(signs.length()));
        switch (random.nextInt(3)) {
            case 0:
                text.setCharAt(at, sign);
                break;
            case 1:
                text.insert(at, sign);
                break;
            default:
                text.deleteCharAt(at);
        }
    }

    private void writeText() {
        due("wipe()", x.wipe(), m.wipe());
        String text = newText();
        int at = 0;
        while (at < text.length()) {
            int n = Math.min(1 + random.nextInt(8), text.length() - at);
            long v = random.nextLong();
            for (int i = 0; i < n; i++) {
                v = v << 8 | text.charAt(at + i);
            }
            due("write(" + n + ", " + v + ")", x.write(n, v), m.write(n, v));
            at += n;
        }
        due("fault() of " + text, x.fault(), m.fault());
    }

    private void call(int which) {
        if (which < 6) {
            callOnTexts(which);
        } else if (which < 11) {
            callOnRest(which);
        } else if (which < 16) {
            callOnFits(which);
        } else if (which < 22) {
            callOnHurt(which);
        } else {
            callOnYearsAndTrials(which);
        }
    }

    private void callOnTexts(int which) {
        switch (which) {
            case 0 -> {
                int n = some(1, 8);
                long v = random.nextLong();
                due("write(" + n + ", " + v + ")", x.write(n, v), m.write(n, v));
            }
            case 1 -> {
                if (random.nextInt(10) == 0) {
                    writeText();
                }
            }
            case 2 -> due("fault()", x.fault(), m.fault());
            case 3 -> {
                if (random.nextInt(3) == 0) {
                    due("lay()", x.lay(), m.lay());
                }
            }
            case 4 -> {
                if (random.nextInt(3) == 0) {
                    newBody();
                }
            }
            default -> {
                int b = bodyNumber();
                int p = some(0, 5);
                int v = some(0, 100);
                due("hang(" + b + ", " + p + ", " + v + ")", x.hang(b, p, v), m.hang(b, p, v));
            }
        }
    }

    private void callOnRest(int which) {
        int b = bodyNumber();
        int s = seatNumber();
        int p = some(0, 3);
        int part = some(0, 1);
        String of = "(" + b + ", " + s + ", " + p + ", " + part + ")";
        switch (which) {
            case 6, 7 -> due("level" + of, x.level(b, s, part), m.level(b, s, part));
            case 8 -> due("push" + of, x.push(b, s, p, part), m.push(b, s, p, part));
            case 9 -> due("bears" + of, x.bears(b, s, p), m.bears(b, s, p));
            default -> {
                int q = random.nextInt(3) == 0 ? -1 : p;
                due("press" + of + q, x.press(b, s, q), m.press(b, s, q));
            }
        }
    }

    private void callOnFits(int which) {
        int s = seatNumber();
        switch (which) {
            case 11 -> {
                int v = some(0, 300);
                due("slack(" + v + ")", x.slack(v), m.slack(v));
            }
            case 12 -> {
                int b = bodyNumber();
                int h = some(-1, 9);
                int w = some(0, 9);
                due("fits(" + b + ", " + s + ", " + h + ", " + w + ")", x.fits(b, s, h, w), m.fits(b, s, h, w));
            }
            case 13 -> {
                int set = some(0, (1 << m.count(2)) - 1);
                int what = some(0, 1);
                due("share(" + set + ", " + what + ")", x.share(set, what), m.share(set, what));
            }
            case 14 -> {
                int what = some(0, 1);
                due("setting(" + s + ", " + what + ")", x.setting(s, what), m.setting(s, what));
            }
            default -> {
                int v = some(1, random.nextBoolean() ? 1000 : 200);
                due("fewest(" + v + ")", x.fewest(v), m.fewest(v));
            }
        }
    }

    private void callOnHurt(int which) {
        int b = bodyNumber();
        int s = seatNumber();
        switch (which) {
            case 16 -> {
                int what = some(0, 1);
                int v = some(0, random.nextBoolean() ? 1000 : 20000);
                due("law(" + what + ", " + v + ")", x.law(what, v), m.law(what, v));
            }
            case 17 -> {
                int limit = some(1, random.nextBoolean() ? 100000 : 3000);
                due("hours(" + b + ", " + s + ", " + limit + ")", x.hours(b, s, limit), m.hours(b, s, limit));
            }
            case 18 -> {
                int t = some(1, 12);
                int k = some(0, 3);
                int i = some(-1, 3);
                String call = "stops(" + b + ", " + s + ", " + t + ", " + k + ", " + i + ")";
                due(call, x.stops(b, s, t, k, i), m.stops(b, s, t, k, i));
            }
            case 19 -> {
                int r = some(0, 3);
                int t = some(0, 3);
                int v = some(0, 1000);
                due("road(" + r + ", " + t + ", " + v + ")", x.road(r, t, v), m.road(r, t, v));
            }
            case 20 -> {
                int r = some(0, 3);
                int t = some(0, 3);
                String call = "through(" + b + ", " + s + ", " + r + ", " + t + ")";
                due(call, x.through(b, s, r, t), m.through(b, s, r, t));
            }
            default -> {
                int[] h = {some(0, 24), some(0, 24), some(0, 24), some(0, 24)};
                String call = "dose(" + b + ", " + s + ", " + h[0] + ", " + h[1] + ", " + h[2] + ", " + h[3] + ")";
                due(call, x.dose(b, s, h[0], h[1], h[2], h[3]), m.dose(b, s, h[0], h[1], h[2], h[3]));
            }
        }
    }

    private void callOnYearsAndTrials(int which) {
        int b = bodyNumber();
        int s = seatNumber();
        switch (which) {
            case 22 -> {
                int h = some(1, 5000);
                int n = some(1, 20);
                String call = "years(" + s + ", " + b + ", " + h + ", " + n + ")";
                due(call, x.years(s, b, h, n), m.years(s, b, h, n));
            }
            case 23 -> {
                int p = some(0, 5);
                due("worn(" + s + ", " + p + ")", x.worn(s, p), m.worn(s, p));
            }
            case 24 -> {
                int h = some(1, 5000);
                int mark = some(1, 100);
                String call = "until(" + s + ", " + b + ", " + h + ", " + mark + ")";
                due(call, x.until(s, b, h, mark), m.until(s, b, h, mark));
            }
            case 25 -> {
                for (int i = 0; i < 4; i++) {
                    int at = seatNumber();
                    int who = bodyNumber();
                    int said = some(0, random.nextBoolean() ? 100 : 3);
                    String call = "trial(" + who + ", " + at + ", " + said + ")";
                    due(call, x.trial(who, at, said), m.trial(who, at, said));
                }
            }
            case 26 -> {
                int a = seatNumber();
                int what = some(0, 3);
                due("against(" + a + ", " + s + ", " + what + ")", x.against(a, s, what), m.against(a, s, what));
            }
            case 27 -> {
                int part = some(0, 1);
                due("score(" + s + ", " + part + ")", x.score(s, part), m.score(s, part));
            }
            default -> {
                int what = some(0, 6);
                due("count(" + what + ")", x.count(what), m.count(what));
            }
        }
    }
}
