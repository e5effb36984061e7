import java.math.BigInteger;
import java.util.ArrayList;
import java.util.List;
import java.util.TreeSet;
import java.util.regex.Matcher;
import java.util.regex.Pattern;

/** The document once more, in another and slower way, with the whole Java library: for ModelTest. */
final class SlowModel {
    private static final int BAD = -1, NO = -2, FULL = -3, NONE = -4, FAR_BAD = -1000000000;
    private static final Pattern ITEM = Pattern.compile("([ltsp])([0-9]{1,4}(?:,[0-9]{1,4})*);", Pattern.DOTALL);

    /** A fraction in lowest terms, with a part below that is above 0. */
    record Part(BigInteger above, BigInteger below) implements Comparable<Part> {
        static Part of(BigInteger a, BigInteger b) {
            if (b.signum() < 0) {
                return of(a.negate(), b.negate());
            }
            BigInteger g = a.gcd(b);
            return new Part(a.divide(g), b.divide(g));
        }

        static Part of(long whole) {
            return new Part(BigInteger.valueOf(whole), BigInteger.ONE);
        }

        Part plus(Part o) {
            return of(above.multiply(o.below).add(o.above.multiply(below)), below.multiply(o.below));
        }

        Part minus(Part o) {
            return plus(new Part(o.above.negate(), o.below));
        }

        Part times(Part o) {
            return of(above.multiply(o.above), below.multiply(o.below));
        }

        Part by(Part o) {
            return of(above.multiply(o.below), below.multiply(o.above));
        }

        int cut() {
            return above.divide(below).intValueExact();
        }

        @Override
        public int compareTo(Part o) {
            return above.multiply(o.below).compareTo(o.above.multiply(below));
        }
    }

    static final class Layer {
        List<int[]> pieces = new ArrayList<>();
        int[] lets = {100, 100, 100, 100};

        Part push(Part squeeze) {
            Part sum = Part.of(0);
            Part from = Part.of(0);
            for (int[] piece : pieces) {
                Part to = from.plus(Part.of(piece[0]));
                sum = sum.plus(within(squeeze, from, to).times(Part.of(piece[1])));
                from = to;
            }
            return sum.plus(within(squeeze, from, Part.of(1000000)).times(Part.of(1000)));
        }

        private static Part within(Part squeeze, Part from, Part to) {
            Part end = squeeze.compareTo(to) < 0 ? squeeze : to;
            return end.compareTo(from) > 0 ? end.minus(from) : Part.of(0);
        }

        int length() {
            return pieces.stream().mapToInt(p -> p[0]).sum();
        }
    }

    static final class Patch {
        Layer layer;
        int top;
        int area;
        int worn;
    }

    static final class Seat {
        int[] is;
        List<Patch> patches = new ArrayList<>();
        int years;
    }

    static final class Body {
        int[] is;
        int[] hang = new int[6];
    }

    private final StringBuilder text = new StringBuilder();
    private List<Layer> layers = new ArrayList<>();
    private List<Seat> seats = new ArrayList<>();
    private List<Layer> readLayers;
    private List<Seat> readSeats;
    private final List<Body> bodies = new ArrayList<>();
    private final List<int[]> trials = new ArrayList<>();
    private final int[][] roads = new int[4][4];
    private int slack = 60;
    private final int[] law = {300, 50};

    private static boolean out(int v, int least, int most) {
        return v < least || v > most;
    }

    private boolean noBody(int b) {
        return out(b, 0, bodies.size() - 1);
    }

    private boolean noSeat(int s) {
        return out(s, 0, seats.size() - 1);
    }

    private boolean noPatch(int s, int p) {
        return noSeat(s) || out(p, 0, seats.get(s).patches.size() - 1);
    }

    int write(int n, long v) {
        if (out(n, 1, 8)) {
            return BAD;
        }
        if (text.length() + n > 300) {
            return FULL;
        }
        String hex = String.format("%016x", v).substring(16 - 2 * n);
        for (int i = 0; i < n; i++) {
            text.append((char) Integer.parseInt(hex.substring(2 * i, 2 * i + 2), 16));
        }
        return text.length();
    }

    int wipe() {
        int was = text.length();
        text.delete(0, was);
        return was;
    }

    int fault() {
        readLayers = new ArrayList<>();
        readSeats = new ArrayList<>();
        String rest = text.toString();
        while (!rest.isEmpty()) {
            Matcher m = ITEM.matcher(rest);
            if (!m.lookingAt() || !read(m.group(1), m.group(2).split(","))) {
                return text.length() - rest.length();
            }
            rest = rest.substring(m.end());
        }
        return NONE;
    }

    private boolean read(String letter, String[] told) {
        int[] v = new int[told.length];
        for (int i = 0; i < v.length; i++) {
            v[i] = Integer.parseInt(told[i]);
        }
        switch (letter) {
            case "l" -> {
                if (v.length % 2 == 1 || v.length > 8 || readLayers.size() == 8) {
                    return false;
                }
                Layer layer = new Layer();
                for (int i = 0; i < v.length; i += 2) {
                    if (out(v[i], 1, 100) || out(v[i + 1], 1, 200)) {
                        return false;
                    }
                    layer.pieces.add(new int[] {v[i], v[i + 1]});
                }
                return readLayers.add(layer);
            }
            case "t" -> {
                if (v.length != 5 || v[0] >= readLayers.size()) {
                    return false;
                }
                for (int i = 1; i < 5; i++) {
                    if (v[i] > 300) {
                        return false;
                    }
                }
                readLayers.get(v[0]).lets = new int[] {v[1], v[2], v[3], v[4]};
                return true;
            }
            case "s" -> {
                if (v.length != 4 || readSeats.size() == 6 || out(v[0], 100, 600) || out(v[1], 300, 900)
                        || out(v[2], 600, 1600) || out(v[3], 200, 700)) {
                    return false;
                }
                Seat seat = new Seat();
                seat.is = v;
                return readSeats.add(seat);
            }
            default -> {
                if (v.length != 3 || readSeats.isEmpty() || v[0] >= readLayers.size() || out(v[1], 0, 200)
                        || out(v[2], 1, 400)) {
                    return false;
                }
                Seat seat = readSeats.get(readSeats.size() - 1);
                Patch patch = new Patch();
                patch.layer = readLayers.get(v[0]);
                patch.top = v[1];
                patch.area = v[2];
                return seat.patches.size() < 6 && seat.patches.add(patch);
            }
        }
    }

    int lay() {
        if (fault() != NONE || readSeats.stream().anyMatch(s -> s.patches.isEmpty())) {
            return NO;
        }
        layers = readLayers;
        seats = readSeats;
        return seats.size();
    }

    int body(int weight, int leg, int reach, int eye, int hip, int heap) {
        if (out(weight, 100, 2000) || out(leg, 250, 700) || out(reach, 400, 1200) || out(eye, 400, 1100)
                || out(hip, 200, 700) || out(heap, 1, 1000)) {
            return BAD;
        }
        if (bodies.size() == 12) {
            return FULL;
        }
        Body b = new Body();
        b.is = new int[] {weight, leg, reach, eye, hip, heap};
        bodies.add(b);
        return bodies.size() - 1;
    }

    int hang(int body, int patch, int v) {
        if (noBody(body) || out(patch, 0, 5) || out(v, 0, 100)) {
            return BAD;
        }
        int was = bodies.get(body).hang[patch];
        bodies.get(body).hang[patch] = v;
        return was;
    }

    private Part squeeze(Body b, Patch patch, int i, int worn, Part z) {
        return Part.of(patch.top - worn).minus(z.minus(Part.of(b.hang[i])));
    }

    private Part pushes(Body b, Seat s, int[] worn, Part z) {
        Part sum = Part.of(0);
        for (int i = 0; i < s.patches.size(); i++) {
            Patch p = s.patches.get(i);
            sum = sum.plus(p.layer.push(squeeze(b, p, i, worn[i], z)));
        }
        return sum;
    }

    /** Goes down from bend to bend of the pushes, and solves the straight line in which the weight lies. */
    private Part level(Body b, Seat s, int[] worn) {
        TreeSet<Integer> bends = new TreeSet<>();
        for (int i = 0; i < s.patches.size(); i++) {
            Patch p = s.patches.get(i);
            int at = p.top - worn[i] + b.hang[i];
            bends.add(at);
            for (int[] piece : p.layer.pieces) {
                at -= piece[0];
                bends.add(at);
            }
        }
        bends.add(bends.first() - 10000);
        Part weight = Part.of(b.is[0]);
        Part from = Part.of(bends.last());
        for (int bend : bends.descendingSet()) {
            Part to = Part.of(bend);
            if (pushes(b, s, worn, to).compareTo(weight) >= 0) {
                Part high = pushes(b, s, worn, to);
                Part low = pushes(b, s, worn, from);
                Part share = weight.minus(low).by(high.minus(low));
                return from.plus(to.minus(from).times(share));
            }
            from = to;
        }
        throw new IllegalStateException("no level");
    }

    private static int[] wornOf(Seat s) {
        return s.patches.stream().mapToInt(p -> p.worn).toArray();
    }

    private Part level(int body, int seat) {
        return level(bodies.get(body), seats.get(seat), wornOf(seats.get(seat)));
    }

    private Part squeeze(int body, int seat, int patch) {
        Patch p = seats.get(seat).patches.get(patch);
        return squeeze(bodies.get(body), p, patch, p.worn, level(body, seat));
    }

    private Part push(int body, int seat, int patch) {
        return seats.get(seat).patches.get(patch).layer.push(squeeze(body, seat, patch));
    }

    int level(int body, int seat, int part) {
        if (noBody(body) || noSeat(seat) || out(part, 0, 1)) {
            return FAR_BAD;
        }
        Part z = level(body, seat);
        return (part == 0 ? z.above : z.below).intValueExact();
    }

    int push(int body, int seat, int patch, int part) {
        if (noBody(body) || noPatch(seat, patch) || out(part, 0, 1)) {
            return BAD;
        }
        Part f = push(body, seat, patch);
        return (part == 0 ? f.above : f.below).intValueExact();
    }

    int bears(int body, int seat, int patch) {
        if (noBody(body) || noPatch(seat, patch)) {
            return BAD;
        }
        Part s = squeeze(body, seat, patch);
        if (s.compareTo(Part.of(0)) <= 0) {
            return 0;
        }
        return s.compareTo(Part.of(seats.get(seat).patches.get(patch).layer.length())) >= 0 ? 2 : 1;
    }

    int press(int body, int seat, int patch) {
        if (noBody(body) || noSeat(seat) || patch != -1 && noPatch(seat, patch)) {
            return BAD;
        }
        if (patch == -1) {
            int n = seats.get(seat).patches.size();
            int first = n - 1;
            for (int i = n - 1; i >= 0; i--) {
                if (press(body, seat, i) >= press(body, seat, first)) {
                    first = i;
                }
            }
            return first;
        }
        int area = seats.get(seat).patches.get(patch).area;
        return push(body, seat, patch).times(Part.of(100)).by(Part.of(area)).cut();
    }

    int slack(int v) {
        if (out(v, 0, 300)) {
            return BAD;
        }
        int was = slack;
        slack = v;
        return was;
    }

    int fits(int body, int seat, int height, int way) {
        if (noBody(body) || noSeat(seat) || height != -1 && (out(height, 0, 9) || out(way, 0, 9))) {
            return BAD;
        }
        if (height == -1) {
            for (int i = 0; i < 100; i++) {
                if (fits(body, seat, i / 10, i % 10) == 1) {
                    return 1;
                }
            }
            return 0;
        }
        int[] b = bodies.get(body).is;
        int[] s = seats.get(seat).is;
        int h = s[0] + 20 * height;
        int w = s[1] + 30 * way;
        return b[4] <= s[3] && b[1] >= h && b[1] <= h + slack && b[2] >= w && b[3] + h >= s[2] ? 1 : 0;
    }

    int share(int set, int what) {
        if (set < 0 || set >= Math.pow(2, seats.size()) || out(what, 0, 1)) {
            return BAD;
        }
        int sum = 0;
        for (int b = 0; b < bodies.size(); b++) {
            boolean one = what == 1;
            for (int s = 0; s < seats.size(); s++) {
                one |= (set & 1 << s) != 0 && fits(b, s, -1, 0) == 1;
            }
            sum += one ? bodies.get(b).is[5] : 0;
        }
        return sum;
    }

    int setting(int seat, int what) {
        if (noSeat(seat) || out(what, 0, 1)) {
            return BAD;
        }
        int best = 0;
        int most = 0;
        for (int i = 99; i >= 0; i--) {
            int sum = 0;
            for (int b = 0; b < bodies.size(); b++) {
                sum += fits(b, seat, i / 10, i % 10) * bodies.get(b).is[5];
            }
            if (sum >= most) {
                most = sum;
                best = i;
            }
        }
        return what == 0 ? best : most;
    }

    int fewest(int x) {
        if (out(x, 1, 1000)) {
            return BAD;
        }
        for (int n = 0; n <= seats.size(); n++) {
            for (int set = 0; set < 1 << seats.size(); set++) {
                if (Integer.bitCount(set) == n && share(set, 0) * 1000L >= (long) x * share(set, 1)) {
                    return set;
                }
            }
        }
        return NONE;
    }

    int law(int what, int v) {
        if (out(what, 0, 1) || out(v, 0, what == 0 ? 20000 : 1000)) {
            return BAD;
        }
        int was = law[what];
        law[what] = v;
        return was;
    }

    private int[] hurts(int body, int seat) {
        int[] each = new int[seats.get(seat).patches.size()];
        for (int i = 0; i < each.length; i++) {
            each[i] = Math.max(0, press(body, seat, i) - law[0]);
        }
        return each;
    }

    int hours(int body, int seat, int limit) {
        if (noBody(body) || noSeat(seat) || out(limit, 1, 100000)) {
            return BAD;
        }
        int[] each = hurts(body, seat);
        int[] now = new int[each.length];
        for (int hour = 1; hour <= 24; hour++) {
            for (int i = 0; i < each.length; i++) {
                now[i] += each[i];
                if (now[i] >= limit) {
                    return hour;
                }
            }
        }
        return NONE;
    }

    int stops(int body, int seat, int t, int k, int at) {
        if (noBody(body) || noSeat(seat) || out(t, 1, 12) || out(k, 0, 3) || at < -1) {
            return BAD;
        }
        int[] each = hurts(body, seat);
        List<Integer> best = null;
        int least = Integer.MAX_VALUE;
        // a row is a set of hours; those whose bit is set are hours of standing
        for (int row = 0; row < 1 << t + k; row += 2) {
            if (Integer.bitCount(row) != k) {
                continue;
            }
            List<Integer> places = new ArrayList<>();
            int worst = worstOf(each, row, t + k, places);
            if (worst < least || worst == least && earlier(places, best)) {
                least = worst;
                best = places;
            }
        }
        if (at == -1) {
            return least;
        }
        return at < best.size() ? best.get(at) : NONE;
    }

    private int worstOf(int[] each, int row, int hours, List<Integer> places) {
        int[] now = new int[each.length];
        int worst = 0;
        int sat = 0;
        for (int hour = 0; hour < hours; hour++) {
            boolean stands = (row >> hour & 1) == 1;
            if (stands) {
                places.add(sat);
            } else {
                sat++;
            }
            for (int i = 0; i < each.length; i++) {
                now[i] = stands ? Math.max(0, now[i] - law[1]) : now[i] + each[i];
                worst = Math.max(worst, now[i]);
            }
        }
        return worst;
    }

    private static boolean earlier(List<Integer> a, List<Integer> b) {
        for (int i = 0; i < a.size(); i++) {
            if (!a.get(i).equals(b.get(i))) {
                return a.get(i) < b.get(i);
            }
        }
        return false;
    }

    int road(int road, int tone, int v) {
        if (out(road, 0, 3) || out(tone, 0, 3) || out(v, 0, 1000)) {
            return BAD;
        }
        int was = roads[road][tone];
        roads[road][tone] = v;
        return was;
    }

    int through(int body, int seat, int road, int tone) {
        if (noBody(body) || noSeat(seat) || out(road, 0, 3) || out(tone, 0, 3)) {
            return BAD;
        }
        int sum = 0;
        int all = 0;
        for (int i = 0; i < seats.get(seat).patches.size(); i++) {
            if (bears(body, seat, i) != 0) {
                int cut = push(body, seat, i).cut();
                all += cut;
                sum += cut * seats.get(seat).patches.get(i).layer.lets[tone];
            }
        }
        return all == 0 ? 0 : (sum / all) * roads[road][tone] / 100;
    }

    long dose(int body, int seat, int h0, int h1, int h2, int h3) {
        if (noBody(body) || noSeat(seat) || out(h0, 0, 24) || out(h1, 0, 24) || out(h2, 0, 24) || out(h3, 0, 24)) {
            return BAD;
        }
        int[] h = {h0, h1, h2, h3};
        long sum = 0;
        for (int i = 0; i < 16; i++) {
            long t = through(body, seat, i / 4, i % 4);
            sum += h[i / 4] * t * t;
        }
        return sum;
    }

    private int[] yearOn(Body b, Seat s, int[] worn, int h) {
        Part z = level(b, s, worn);
        int[] next = worn.clone();
        for (int i = 0; i < worn.length; i++) {
            Patch p = s.patches.get(i);
            int push = p.layer.push(squeeze(b, p, i, worn[i], z)).cut();
            next[i] = Math.min(100, worn[i] + push * h / 1000000);
        }
        return next;
    }

    int years(int seat, int body, int h, int n) {
        if (noSeat(seat) || noBody(body) || out(h, 1, 5000) || out(n, 1, 20)) {
            return BAD;
        }
        Seat s = seats.get(seat);
        if (s.years + n > 100) {
            return FULL;
        }
        s.years += n;
        for (int year = 0; year < n; year++) {
            int[] next = yearOn(bodies.get(body), s, wornOf(s), h);
            for (int i = 0; i < next.length; i++) {
                s.patches.get(i).worn = next[i];
            }
        }
        return s.years;
    }

    int worn(int seat, int patch) {
        return noPatch(seat, patch) ? BAD : seats.get(seat).patches.get(patch).worn;
    }

    int until(int seat, int body, int h, int m) {
        if (noSeat(seat) || noBody(body) || out(h, 1, 5000) || out(m, 1, 100)) {
            return BAD;
        }
        int[] worn = wornOf(seats.get(seat));
        for (int year = 0; year <= 100; year++) {
            for (int w : worn) {
                if (w >= m) {
                    return year;
                }
            }
            int[] next = yearOn(bodies.get(body), seats.get(seat), worn, h);
            if (java.util.Arrays.equals(next, worn)) {
                return NONE;
            }
            worn = next;
        }
        return NONE;
    }

    int trial(int body, int seat, int said) {
        if (noBody(body) || noSeat(seat) || out(said, 0, 100)) {
            return BAD;
        }
        if (trials.size() == 60) {
            return FULL;
        }
        trials.add(new int[] {body, seat, said});
        return trials.size();
    }

    /** What a body said last of a seat; -1 if nothing. */
    private int said(int body, int seat) {
        int said = -1;
        for (int[] t : trials) {
            said = t[0] == body && t[1] == seat ? t[2] : said;
        }
        return said;
    }

    int against(int a, int b, int what) {
        if (noSeat(a) || noSeat(b) || a == b || out(what, 0, 3)) {
            return BAD;
        }
        int[] n = new int[3];
        for (int body = 0; body < bodies.size(); body++) {
            int x = said(body, a);
            int y = said(body, b);
            if (x >= 0 && y >= 0) {
                n[x > y ? 0 : x < y ? 1 : 2]++;
            }
        }
        if (what < 3) {
            return n[what];
        }
        int odds = 0;
        for (int way = 0; way < 1 << n[0] + n[1]; way++) {
            odds += Integer.bitCount(way) >= n[0] ? 1 : 0;
        }
        return odds;
    }

    int score(int seat, int part) {
        if (noSeat(seat) || out(part, 0, 1)) {
            return FAR_BAD;
        }
        Part sum = Part.of(0);
        for (int body = 0; body < bodies.size(); body++) {
            if (said(body, seat) >= 0) {
                int all = 0;
                int n = 0;
                for (int s = 0; s < 6; s++) {
                    if (said(body, s) >= 0) {
                        all += said(body, s);
                        n++;
                    }
                }
                sum = sum.plus(Part.of(said(body, seat)).minus(Part.of(all).by(Part.of(n))));
            }
        }
        return (part == 0 ? sum.above : sum.below).intValueExact();
    }

    int count(int what) {
        return switch (what) {
            case 0 -> text.length();
            case 1 -> layers.size();
            case 2 -> seats.size();
            case 3 -> seats.stream().mapToInt(s -> s.patches.size()).sum();
            case 4 -> bodies.size();
            case 5 -> bodies.stream().mapToInt(b -> b.is[5]).sum();
            case 6 -> trials.size();
            default -> BAD;
        };
    }
}
