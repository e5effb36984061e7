/** Seats for long ways: who rests how in which seat, who fits, what hurts, shakes, wears and is liked. */
public final class LongSeats {
    public static final int BAD = -1, NO = -2, FULL = -3, NONE = -4;

    /** BAD where an answer may itself be below 0. */
    private static final int FAR_BAD = -1000000000;

    private static final int MOST_BYTES = 300;
    private static final int MOST_NUMBERS = 8;
    private static final int MOST_FIGURES = 4;
    private static final int MOST_LAYERS = 8;
    private static final int MOST_PIECES = 4;
    private static final int MOST_SEATS = 6;
    private static final int MOST_PATCHES = 6;
    private static final int MOST_BODIES = 12;
    private static final int MOST_TRIALS = 60;
    private static final int MOST_YEARS = 100;
    private static final int MOST_WORN = 100;
    private static final int MOST_HOURS_OF_SITTING = 24;
    private static final int MOST_STOPS = 3;
    private static final int ROADS = 4;
    private static final int TONES = 4;
    private static final int SETTINGS = 10;

    private final Text text;
    private Plan laid;
    private Plan draft;
    private final Crowd crowd;
    private final Rest rest;
    private final Hurt hurt;
    private final Roads roads;
    private final Trials trials;

    public LongSeats() {
        text = new Text();
        laid = new Plan();
        draft = new Plan();
        crowd = new Crowd();
        rest = new Rest();
        hurt = new Hurt();
        roads = new Roads();
        trials = new Trials();
    }

    // ---- texts, bodies

    public int write(int n, long v) {
        if (!isWithin(n, 1, 8)) {
            return BAD;
        }
        return text.append(n, v) ? text.length : FULL;
    }

    public int wipe() {
        int was = text.length;
        text.length = 0;
        return was;
    }

    public int fault() {
        return text.readInto(draft);
    }

    public int lay() {
        if (text.readInto(draft) != NONE || !draft.allSeatsHavePatches()) {
            return NO;
        }
        Plan before = laid;
        laid = draft;
        draft = before;
        return laid.seatCount;
    }

    public int body(int weight, int leg, int reach, int eye, int hip, int heap) {
        if (!isWithin(weight, 100, 2000) || !isWithin(leg, 250, 700) || !isWithin(reach, 400, 1200)
                || !isWithin(eye, 400, 1100) || !isWithin(hip, 200, 700) || !isWithin(heap, 1, 1000)) {
            return BAD;
        }
        Body next = crowd.nextBody();
        if (next == null) {
            return FULL;
        }
        next.weight = weight;
        next.leg = leg;
        next.reach = reach;
        next.eye = eye;
        next.hip = hip;
        next.heap = heap;
        return crowd.bodyCount - 1;
    }

    public int hang(int body, int patch, int v) {
        Body who = crowd.bodyAt(body);
        if (who == null || !isWithin(patch, 0, MOST_PATCHES - 1) || !isWithin(v, 0, 100)) {
            return BAD;
        }
        int was = who.hangs[patch];
        who.hangs[patch] = v;
        return was;
    }

    // ---- rest

    public int level(int body, int seat, int part) {
        if (!isWithin(part, 0, 1) || !settles(body, seat)) {
            return FAR_BAD;
        }
        return part == 0 ? rest.above : rest.below;
    }

    public int push(int body, int seat, int patch, int part) {
        if (!isWithin(part, 0, 1) || !isPatch(seat, patch) || !settles(body, seat)) {
            return BAD;
        }
        int share = commonDivisor(rest.pushAt(patch), rest.below);
        return (part == 0 ? rest.pushAt(patch) : rest.below) / share;
    }

    public int bears(int body, int seat, int patch) {
        if (!isPatch(seat, patch) || !settles(body, seat)) {
            return BAD;
        }
        return rest.stateAt(patch);
    }

    public int press(int body, int seat, int patch) {
        if (patch != -1 && !isPatch(seat, patch) || !settles(body, seat)) {
            return BAD;
        }
        return patch == -1 ? rest.firstPatch() : rest.pressAt(patch);
    }

    // ---- who fits

    public int slack(int v) {
        if (!isWithin(v, 0, 300)) {
            return BAD;
        }
        int was = crowd.slackNow;
        crowd.slackNow = v;
        return was;
    }

    public int fits(int body, int seat, int height, int way) {
        Body who = crowd.bodyAt(body);
        Seat where = laid.seatAt(seat);
        if (who == null || where == null) {
            return BAD;
        }
        // here no setting is told, so there is no way that could be wrong
        if (height == -1) {
            return crowd.fitsSomehow(who, where) ? 1 : 0;
        }
        if (!isWithin(height, 0, SETTINGS - 1) || !isWithin(way, 0, SETTINGS - 1)) {
            return BAD;
        }
        return crowd.fitsAt(who, where, height, way) ? 1 : 0;
    }

    public int share(int seats, int what) {
        if (!isWithin(seats, 0, (1 << laid.seatCount) - 1) || !isWithin(what, 0, 1)) {
            return BAD;
        }
        if (what == 1) {
            return crowd.people();
        }
        crowd.noteWhoFits(laid);
        return crowd.peopleOfSet(seats);
    }

    public int setting(int seat, int what) {
        Seat where = laid.seatAt(seat);
        if (where == null || !isWithin(what, 0, 1)) {
            return BAD;
        }
        int best = crowd.bestSetting(where);
        return what == 0 ? best : crowd.peopleAt(where, best / SETTINGS, best % SETTINGS);
    }

    public int fewest(int x) {
        if (!isWithin(x, 1, 1000)) {
            return BAD;
        }
        crowd.noteWhoFits(laid);
        return crowd.fewestSeats(laid.seatCount, x);
    }

    // ---- hurt, shakes

    public int law(int what, int v) {
        if (!isWithin(what, 0, 1) || !isWithin(v, 0, what == 0 ? 20000 : 1000)) {
            return BAD;
        }
        int was = what == 0 ? hurt.mark : hurt.ease;
        if (what == 0) {
            hurt.mark = v;
        } else {
            hurt.ease = v;
        }
        return was;
    }

    public int hours(int body, int seat, int limit) {
        if (!isWithin(limit, 1, 100000) || !settles(body, seat)) {
            return BAD;
        }
        return hurt.hoursUntil(rest, limit);
    }

    public int stops(int body, int seat, int t, int k, int i) {
        if (!isWithin(t, 1, 12) || !isWithin(k, 0, MOST_STOPS) || i < -1 || !settles(body, seat)) {
            return BAD;
        }
        if (i >= k) {
            return NONE;
        }
        int least = hurt.placeStops(rest, t, k);
        return i == -1 ? least : hurt.stopAt(i);
    }

    public int road(int road, int tone, int v) {
        if (!isRoad(road) || !isTone(tone) || !isWithin(v, 0, 1000)) {
            return BAD;
        }
        int was = roads.toneOf(road, tone);
        roads.setTone(road, tone, v);
        return was;
    }

    public int through(int body, int seat, int road, int tone) {
        if (!isRoad(road) || !isTone(tone) || !settles(body, seat)) {
            return BAD;
        }
        return roads.comesThrough(rest, road, tone);
    }

    public long dose(int body, int seat, int h0, int h1, int h2, int h3) {
        if (!isHours(h0) || !isHours(h1) || !isHours(h2) || !isHours(h3) || !settles(body, seat)) {
            return BAD;
        }
        return h0 * roads.doseOfHour(rest, 0) + h1 * roads.doseOfHour(rest, 1)
                + h2 * roads.doseOfHour(rest, 2) + h3 * roads.doseOfHour(rest, 3);
    }

    // ---- years

    public int years(int seat, int body, int h, int n) {
        Body who = crowd.bodyAt(body);
        Seat where = laid.seatAt(seat);
        if (who == null || where == null || !isWithin(h, 1, 5000) || !isWithin(n, 1, 20)) {
            return BAD;
        }
        if (where.yearCount + n > MOST_YEARS) {
            return FULL;
        }
        rest.takeWorn(where);
        for (int year = 0; year < n; year++) {
            rest.settle(who, where);
            rest.wearOneYear(h);
        }
        rest.giveWorn(where);
        where.yearCount += n;
        return where.yearCount;
    }

    public int worn(int seat, int patch) {
        Seat where = laid.seatAt(seat);
        Patch at = where == null ? null : where.patchAt(patch);
        return at == null ? BAD : at.wornBy;
    }

    public int until(int seat, int body, int h, int m) {
        Body who = crowd.bodyAt(body);
        Seat where = laid.seatAt(seat);
        if (who == null || where == null || !isWithin(h, 1, 5000) || !isWithin(m, 1, MOST_WORN)) {
            return BAD;
        }
        rest.takeWorn(where);
        for (int year = 0; year <= MOST_YEARS; year++) {
            rest.settle(who, where);
            if (rest.mostWorn() >= m) {
                return year;
            }
            rest.wearOneYear(h);
        }
        return NONE;
    }

    // ---- trials

    public int trial(int body, int seat, int said) {
        Body who = crowd.bodyAt(body);
        if (who == null || laid.seatAt(seat) == null || !isWithin(said, 0, 100)) {
            return BAD;
        }
        if (trials.trialCount >= MOST_TRIALS) {
            return FULL;
        }
        who.say(seat, said);
        trials.trialCount++;
        return trials.trialCount;
    }

    public int against(int a, int b, int what) {
        if (laid.seatAt(a) == null || laid.seatAt(b) == null || a == b || !isWithin(what, 0, 3)) {
            return BAD;
        }
        trials.compare(crowd, a, b);
        switch (what) {
            case 0:
                return trials.wins;
            case 1:
                return trials.losses;
            case 2:
                return trials.alike;
            default:
                return trials.odds();
        }
    }

    public int score(int seat, int part) {
        if (laid.seatAt(seat) == null || !isWithin(part, 0, 1)) {
            return FAR_BAD;
        }
        int above = trials.sixtiethsOf(crowd, seat);
        int divisor = commonDivisor(above, Trials.UNIT);
        return (part == 0 ? above : Trials.UNIT) / divisor;
    }

    public int count(int what) {
        switch (what) {
            case 0:
                return text.length;
            case 1:
                return laid.layerCount;
            case 2:
                return laid.seatCount;
            case 3:
                return laid.patchesOfAll();
            case 4:
                return crowd.bodyCount;
            case 5:
                return crowd.people();
            case 6:
                return trials.trialCount;
            default:
                return BAD;
        }
    }

    // ---- what many calls need

    /** Puts the body to rest in the seat as it is worn now; false if there is no such body or seat. */
    private boolean settles(int body, int seat) {
        Body who = crowd.bodyAt(body);
        Seat where = laid.seatAt(seat);
        if (who == null || where == null) {
            return false;
        }
        rest.takeWorn(where);
        rest.settle(who, where);
        return true;
    }

    private boolean isPatch(int seat, int patch) {
        Seat where = laid.seatAt(seat);
        return where != null && where.patchAt(patch) != null;
    }

    private static boolean isRoad(int road) {
        return isWithin(road, 0, ROADS - 1);
    }

    private static boolean isTone(int tone) {
        return isWithin(tone, 0, TONES - 1);
    }

    private static boolean isHours(int hours) {
        return isWithin(hours, 0, 24);
    }

    private static boolean isWithin(int v, int least, int most) {
        return v >= least && v <= most;
    }

    /** The greatest number that divides both; 1 at least, so that it may always divide. */
    private static int commonDivisor(int a, int b) {
        int high = Math.abs(a);
        int low = Math.abs(b);
        // Euclid's way on ints takes fewer than 50 steps
        for (int step = 0; step < 100 && low > 0; step++) {
            int left = high % low;
            high = low;
            low = left;
        }
        return Math.max(1, high);
    }

    /** THE TEXT, and the reading of it item by item. */
    private static final class Text {
        final byte[] bytes = new byte[MOST_BYTES];
        int length;
        /** The numbers of the item read last. */
        final int[] numbers = new int[MOST_NUMBERS];
        int numberCount;

        boolean append(int n, long v) {
            if (n < 0 || n > MOST_BYTES - length) {
                return false;
            }
            for (int left = n - 1; left >= 0; left--) {
                bytes[length] = (byte) (v >> (8 * left));
                length++;
            }
            return true;
        }

        /** Tells the plan what the text says, up to the first faulty item: its place, or NONE. */
        int readInto(Plan plan) {
            plan.clear();
            int place = 0;
            for (int item = 0; item < MOST_BYTES && place < length; item++) {
                int end = readNumbers(place + 1);
                if (end == NONE || !plan.takeItem(bytes[place], numbers, numberCount)) {
                    return place;
                }
                place = end;
            }
            return NONE;
        }

        /** Reads numbers to the end of an item: the place behind it, or NONE if they are not so. */
        private int readNumbers(int from) {
            numberCount = 0;
            int figures = 0;
            int value = 0;
            for (int at = from; at < length; at++) {
                byte sign = bytes[at];
                if (sign >= '0' && sign <= '9') {
                    if (figures == MOST_FIGURES) {
                        return NONE;
                    }
                    value = 10 * value + (sign - '0');
                    figures++;
                } else {
                    if (sign != ',' && sign != ';' || figures == 0 || numberCount == MOST_NUMBERS) {
                        return NONE;
                    }
                    numbers[numberCount] = value;
                    numberCount++;
                    if (sign == ';') {
                        return at + 1;
                    }
                    figures = 0;
                    value = 0;
                }
            }
            return NONE;
        }
    }

    /** The layers and seats that a text tells. */
    private static final class Plan {
        final Layer[] layers = new Layer[MOST_LAYERS];
        int layerCount;
        final Seat[] seats = new Seat[MOST_SEATS];
        int seatCount;

        Plan() {
            for (int i = 0; i < MOST_LAYERS; i++) {
                layers[i] = new Layer();
            }
            for (int i = 0; i < MOST_SEATS; i++) {
                seats[i] = new Seat(layers[0]);
            }
        }

        void clear() {
            layerCount = 0;
            seatCount = 0;
        }

        Layer layerAt(int layer) {
            return isWithin(layer, 0, layerCount - 1) ? layers[layer] : null;
        }

        Seat seatAt(int seat) {
            return isWithin(seat, 0, seatCount - 1) ? seats[seat] : null;
        }

        /** Takes an item in, if it is as the document tells. */
        boolean takeItem(byte letter, int[] numbers, int n) {
            if (numbers.length < MOST_NUMBERS || n > MOST_NUMBERS) {
                return false;
            }
            switch (letter) {
                case 'l':
                    return takeLayer(numbers, n);
                case 't':
                    return n == 5 && takeLets(layerAt(numbers[0]), numbers);
                case 's':
                    return n == 4 && takeSeat(numbers);
                case 'p':
                    return n == 3 && takePatch(seatAt(seatCount - 1), layerAt(numbers[0]), numbers);
                default:
                    return false;
            }
        }

        private boolean takeLayer(int[] numbers, int n) {
            if (layerCount == MOST_LAYERS || n < 2 || n % 2 != 0) {
                return false;
            }
            for (int i = 0; i + 1 < n; i += 2) {
                if (!isWithin(numbers[i], 1, 100) || !isWithin(numbers[i + 1], 1, 200)) {
                    return false;
                }
            }
            layers[layerCount].begin(numbers, n / 2);
            layerCount++;
            return true;
        }

        private boolean takeLets(Layer layer, int[] numbers) {
            if (layer == null) {
                return false;
            }
            for (int tone = 0; tone < TONES; tone++) {
                if (!isWithin(numbers[1 + tone], 0, 300)) {
                    return false;
                }
            }
            for (int tone = 0; tone < TONES; tone++) {
                layer.lets[tone] = numbers[1 + tone];
            }
            return true;
        }

        private boolean takeSeat(int[] numbers) {
            if (seatCount == MOST_SEATS
                    || !isWithin(numbers[0], 100, 600) || !isWithin(numbers[1], 300, 900)
                    || !isWithin(numbers[2], 600, 1600) || !isWithin(numbers[3], 200, 700)) {
                return false;
            }
            seats[seatCount].begin(numbers);
            seatCount++;
            return true;
        }

        private boolean takePatch(Seat seat, Layer layer, int[] numbers) {
            if (seat == null || layer == null
                    || !isWithin(numbers[1], 0, 200) || !isWithin(numbers[2], 1, 400)) {
                return false;
            }
            return seat.addPatch(layer, numbers[1], numbers[2]);
        }

        boolean allSeatsHavePatches() {
            for (int i = 0; i < seatCount; i++) {
                if (seats[i].patchCount == 0) {
                    return false;
                }
            }
            return true;
        }

        int patchesOfAll() {
            int sum = 0;
            for (int i = 0; i < seatCount; i++) {
                sum += seats[i].patchCount;
            }
            return sum;
        }
    }

    /** Pieces of stuff, from the top on, and what they let through of each tone. */
    private static final class Layer {
        private static final int HARD_BEYOND = 1000;

        final int[] lengths = new int[MOST_PIECES];
        final int[] hards = new int[MOST_PIECES];
        int pieceCount;
        final int[] lets = new int[TONES];

        void begin(int[] numbers, int pieces) {
            pieceCount = 0;
            for (int i = 0; i < pieces && i < MOST_PIECES && 2 * i + 1 < numbers.length; i++) {
                lengths[i] = numbers[2 * i];
                hards[i] = numbers[2 * i + 1];
                pieceCount++;
            }
            for (int tone = 0; tone < TONES; tone++) {
                lets[tone] = 100;
            }
        }

        int wholeLength() {
            int sum = 0;
            for (int i = 0; i < pieceCount; i++) {
                sum += lengths[i];
            }
            return sum;
        }

        /** Unit times the push of a squeeze that is told as unit times its mm. */
        int pushOf(int squeeze, int unit) {
            int left = Math.max(0, squeeze);
            int sum = 0;
            for (int i = 0; i < pieceCount; i++) {
                int part = Math.min(left, lengths[i] * unit);
                sum += part * hards[i];
                left -= part;
            }
            return sum + left * HARD_BEYOND;
        }
    }

    /** A place of a seat that bears. */
    private static final class Patch {
        Layer layer;
        int top;
        int area;
        int wornBy;

        Patch(Layer layer) {
            this.layer = layer;
            area = 1;
        }
    }

    /** A seat's measures and patches, and the years that it had. */
    private static final class Seat {
        int base;
        int distance;
        int sight;
        int width;
        int yearCount;
        final Patch[] patches = new Patch[MOST_PATCHES];
        int patchCount;

        /** A patch has some layer from the beginning, so that none is ever null. */
        Seat(Layer anyLayer) {
            for (int i = 0; i < MOST_PATCHES; i++) {
                patches[i] = new Patch(anyLayer);
            }
        }

        void begin(int[] numbers) {
            if (numbers.length < 4) {
                return;
            }
            base = numbers[0];
            distance = numbers[1];
            sight = numbers[2];
            width = numbers[3];
            yearCount = 0;
            patchCount = 0;
        }

        boolean addPatch(Layer layer, int top, int area) {
            if (patchCount == MOST_PATCHES) {
                return false;
            }
            Patch next = patches[patchCount];
            next.layer = layer;
            next.top = top;
            next.area = area;
            next.wornBy = 0;
            patchCount++;
            return true;
        }

        Patch patchAt(int patch) {
            return isWithin(patch, 0, patchCount - 1) ? patches[patch] : null;
        }

        int heightInMm(int height) {
            return base + 20 * height;
        }

        int wayInMm(int way) {
            return distance + 30 * way;
        }
    }

    /** Some people alike, and what they said of the seats that they tried. */
    private static final class Body {
        private static final int NOTHING_SAID = -1;

        int weight;
        int leg;
        int reach;
        int eye;
        int hip;
        int heap;
        final int[] hangs = new int[MOST_PATCHES];
        /** Said last of each seat's number; it stays when other seats are laid. */
        final int[] saids = new int[MOST_SEATS];

        Body() {
            for (int i = 0; i < MOST_SEATS; i++) {
                saids[i] = NOTHING_SAID;
            }
        }

        void say(int seat, int said) {
            if (isWithin(seat, 0, MOST_SEATS - 1)) {
                saids[seat] = said;
            }
        }

        boolean hasTried(int seat) {
            return isWithin(seat, 0, MOST_SEATS - 1) && saids[seat] != NOTHING_SAID;
        }

        int saidOf(int seat) {
            return hasTried(seat) ? saids[seat] : 0;
        }

        int triedSeats() {
            int sum = 0;
            for (int seat = 0; seat < MOST_SEATS; seat++) {
                sum += hasTried(seat) ? 1 : 0;
            }
            return sum;
        }

        int saidTogether() {
            int sum = 0;
            for (int seat = 0; seat < MOST_SEATS; seat++) {
                sum += saidOf(seat);
            }
            return sum;
        }
    }

    /** A body at rest in a seat: its level, and what each patch does there. */
    private static final class Rest {
        // no patch is squeezed above the one, every patch bears more than any weight below the other
        private static final int ALL_FREE = 301;
        private static final int ALL_STOPPED = -600;

        int above;
        int below = 1;
        private int patchCount;
        /** Worn as it is now or as it is tried. */
        private final int[] worns = new int[MOST_PATCHES];
        private final int[] presses = new int[MOST_PATCHES];
        private final int[] states = new int[MOST_PATCHES];
        /** Pushes, each times below. */
        private final int[] pushes = new int[MOST_PATCHES];
        private final int[] lets = new int[MOST_PATCHES * TONES];

        void takeWorn(Seat seat) {
            for (int i = 0; i < seat.patchCount; i++) {
                worns[i] = seat.patches[i].wornBy;
            }
        }

        void giveWorn(Seat seat) {
            for (int i = 0; i < seat.patchCount; i++) {
                seat.patches[i].wornBy = worns[i];
            }
        }

        void settle(Body body, Seat seat) {
            findLevel(body, seat);
            patchCount = seat.patchCount;
            for (int i = 0; i < patchCount; i++) {
                Patch patch = seat.patches[i];
                int squeeze = squeezeAt(i, patch, body, above, below);
                pushes[i] = patch.layer.pushOf(squeeze, below);
                states[i] = squeeze <= 0 ? 0 : squeeze < patch.layer.wholeLength() * below ? 1 : 2;
                long share = (long) below * patch.area;
                presses[i] = share < 1 ? 0 : (int) (100L * pushes[i] / share);
                for (int tone = 0; tone < TONES; tone++) {
                    lets[i * TONES + tone] = patch.layer.lets[tone];
                }
            }
        }

        /** Pushes bend at whole mm alone, so the level lies on a straight line between two of them. */
        private void findLevel(Body body, Seat seat) {
            int low = ALL_STOPPED;
            int high = ALL_FREE;
            for (int step = 0; step < 20 && high - low > 1; step++) {
                int middle = low + (high - low) / 2;
                if (pushTogether(body, seat, middle) >= body.weight) {
                    low = middle;
                } else {
                    high = middle;
                }
            }
            int atLow = pushTogether(body, seat, low);
            int fall = Math.max(1, atLow - pushTogether(body, seat, low + 1));
            int whole = low * fall + atLow - body.weight;
            int divisor = commonDivisor(whole, fall);
            above = whole / divisor;
            below = fall / divisor;
        }

        private int pushTogether(Body body, Seat seat, int level) {
            int sum = 0;
            for (int i = 0; i < seat.patchCount; i++) {
                Patch patch = seat.patches[i];
                sum += patch.layer.pushOf(squeezeAt(i, patch, body, level, 1), 1);
            }
            return sum;
        }

        /** Unit times the squeeze at a level that is told as unit times its mm. */
        private int squeezeAt(int i, Patch patch, Body body, int level, int unit) {
            if (!isWithin(i, 0, MOST_PATCHES - 1)) {
                return 0;
            }
            return (patch.top - worns[i] + body.hangs[i]) * unit - level;
        }

        private boolean isHere(int patch) {
            return isWithin(patch, 0, patchCount - 1);
        }

        int patches() {
            return patchCount;
        }

        int pushAt(int patch) {
            return isHere(patch) ? pushes[patch] : 0;
        }

        int pushCutAt(int patch) {
            return below < 1 ? 0 : pushAt(patch) / below;
        }

        int stateAt(int patch) {
            return isHere(patch) ? states[patch] : 0;
        }

        int pressAt(int patch) {
            return isHere(patch) ? presses[patch] : 0;
        }

        int letAt(int patch, int tone) {
            return isHere(patch) && isTone(tone) ? lets[patch * TONES + tone] : 0;
        }

        int firstPatch() {
            int first = 0;
            for (int i = 1; i < patchCount; i++) {
                if (presses[i] > presses[first]) {
                    first = i;
                }
            }
            return first;
        }

        void wearOneYear(int hours) {
            for (int i = 0; i < patchCount; i++) {
                worns[i] = Math.min(MOST_WORN, worns[i] + pushCutAt(i) * hours / 1000000);
            }
        }

        int mostWorn() {
            int most = 0;
            for (int i = 0; i < patchCount; i++) {
                most = Math.max(most, worns[i]);
            }
            return most;
        }
    }

    /** All bodies, and whom of them seats fit. */
    private static final class Crowd {
        final Body[] bodies = new Body[MOST_BODIES];
        int bodyCount;
        int slackNow = 60;
        /** For each seat the bodies that it fits somehow, as bits. */
        private final int[] fitted = new int[MOST_SEATS];

        Crowd() {
            for (int i = 0; i < MOST_BODIES; i++) {
                bodies[i] = new Body();
            }
        }

        Body bodyAt(int body) {
            return isWithin(body, 0, bodyCount - 1) ? bodies[body] : null;
        }

        /** One body more, or null if there is no room. */
        Body nextBody() {
            if (bodyCount == MOST_BODIES) {
                return null;
            }
            bodyCount++;
            return bodies[bodyCount - 1];
        }

        int people() {
            return peopleOf((1 << bodyCount) - 1);
        }

        private int peopleOf(int bits) {
            int sum = 0;
            for (int i = 0; i < bodyCount; i++) {
                if ((bits >> i & 1) == 1) {
                    sum += bodies[i].heap;
                }
            }
            return sum;
        }

        boolean fitsAt(Body body, Seat seat, int height, int way) {
            int high = seat.heightInMm(height);
            return body.hip <= seat.width
                    && body.leg >= high && body.leg <= high + slackNow
                    && body.reach >= seat.wayInMm(way)
                    && body.eye + high >= seat.sight;
        }

        boolean fitsSomehow(Body body, Seat seat) {
            for (int height = 0; height < SETTINGS; height++) {
                // whom some way fits, the least way fits too
                if (fitsAt(body, seat, height, 0)) {
                    return true;
                }
            }
            return false;
        }

        int peopleAt(Seat seat, int height, int way) {
            int sum = 0;
            for (int i = 0; i < bodyCount; i++) {
                if (fitsAt(bodies[i], seat, height, way)) {
                    sum += bodies[i].heap;
                }
            }
            return sum;
        }

        /** Ten times the height and the way. */
        int bestSetting(Seat seat) {
            int best = 0;
            int most = 0;
            for (int i = 0; i < SETTINGS * SETTINGS; i++) {
                int here = peopleAt(seat, i / SETTINGS, i % SETTINGS);
                if (here > most) {
                    most = here;
                    best = i;
                }
            }
            return best;
        }

        /** To be called ahead of peopleOfSet and fewestSeats. */
        void noteWhoFits(Plan plan) {
            for (int seat = 0; seat < plan.seatCount; seat++) {
                int bits = 0;
                for (int i = 0; i < bodyCount; i++) {
                    if (fitsSomehow(bodies[i], plan.seats[seat])) {
                        bits |= 1 << i;
                    }
                }
                fitted[seat] = bits;
            }
        }

        int peopleOfSet(int seats) {
            int bits = 0;
            for (int seat = 0; seat < MOST_SEATS; seat++) {
                if ((seats >> seat & 1) == 1) {
                    bits |= fitted[seat];
                }
            }
            return peopleOf(bits);
        }

        int fewestSeats(int seatCount, int thousandths) {
            int least = NONE;
            int all = people();
            for (int set = 0; set < 1 << seatCount; set++) {
                boolean fewer = least == NONE || Integer.bitCount(set) < Integer.bitCount(least);
                if (fewer && peopleOfSet(set) * 1000 >= thousandths * all) {
                    least = set;
                }
            }
            return least;
        }
    }

    /** What presses do by hours, and where stops help most. */
    private static final class Hurt {
        int mark = 300;
        int ease = 50;
        private final int[] tried = new int[MOST_STOPS];
        private final int[] best = new int[MOST_STOPS];

        /** Of the patch that is pressed most: no other ever hurts more than that one. */
        private int hurtOfHour(Rest rest) {
            return Math.max(0, rest.pressAt(rest.firstPatch()) - mark);
        }

        int hoursUntil(Rest rest, int limit) {
            int each = hurtOfHour(rest);
            for (int hour = 1; hour <= MOST_HOURS_OF_SITTING; hour++) {
                if (hour * each >= limit) {
                    return hour;
                }
            }
            return NONE;
        }

        /** Finds the best row of stops: the greatest hurt in it. */
        int placeStops(Rest rest, int sitting, int stopCount) {
            int k = Math.min(stopCount, MOST_STOPS);
            int each = hurtOfHour(rest);
            for (int i = 0; i < k; i++) {
                tried[i] = 1;
                best[i] = 1;
            }
            int least = greatestHurt(each, sitting, k);
            // there are 364 rows at most, 3 stops behind 12 hours
            for (int row = 1; row < 1000 && nextRow(sitting, k); row++) {
                int greatest = greatestHurt(each, sitting, k);
                if (greatest < least) {
                    least = greatest;
                    for (int i = 0; i < k; i++) {
                        best[i] = tried[i];
                    }
                }
            }
            return least;
        }

        int stopAt(int i) {
            return isWithin(i, 0, MOST_STOPS - 1) ? best[i] : NONE;
        }

        /** Goes on to the next row of k stops that do not fall, earlier stops first; false behind the last. */
        private boolean nextRow(int sitting, int k) {
            for (int i = Math.min(k, MOST_STOPS) - 1; i >= 0; i--) {
                if (tried[i] < sitting) {
                    int later = tried[i] + 1;
                    for (int j = i; j < k && j < MOST_STOPS; j++) {
                        tried[j] = later;
                    }
                    return true;
                }
            }
            return false;
        }

        private int greatestHurt(int each, int sitting, int k) {
            int now = 0;
            int greatest = 0;
            for (int hour = 1; hour <= sitting; hour++) {
                now += each;
                greatest = Math.max(greatest, now);
                for (int i = 0; i < k && i < MOST_STOPS; i++) {
                    if (tried[i] == hour) {
                        now = Math.max(0, now - ease);
                    }
                }
            }
            return greatest;
        }
    }

    /** The roads' tones, and what of them comes through to a body at rest. */
    private static final class Roads {
        private final int[] tones = new int[ROADS * TONES];

        int toneOf(int road, int tone) {
            return isRoad(road) && isTone(tone) ? tones[road * TONES + tone] : 0;
        }

        void setTone(int road, int tone, int v) {
            if (isRoad(road) && isTone(tone)) {
                tones[road * TONES + tone] = v;
            }
        }

        int comesThrough(Rest rest, int road, int tone) {
            int sum = 0;
            int pushes = 0;
            // a free patch has no push, so it adds nothing
            for (int i = 0; i < rest.patches(); i++) {
                int push = rest.pushCutAt(i);
                sum += rest.letAt(i, tone) * push;
                pushes += push;
            }
            return pushes < 1 ? 0 : sum / pushes * toneOf(road, tone) / 100;
        }

        long doseOfHour(Rest rest, int road) {
            long sum = 0;
            for (int tone = 0; tone < TONES; tone++) {
                long part = comesThrough(rest, road, tone);
                sum += part * part;
            }
            return sum;
        }
    }

    /** What bodies said of seats, set against one another. */
    private static final class Trials {
        /** A part of it is whole for every number of seats that a body may have tried, 1 to 6. */
        static final int UNIT = 60;

        int trialCount;
        int wins;
        int losses;
        int alike;

        void compare(Crowd crowd, int a, int b) {
            wins = 0;
            losses = 0;
            alike = 0;
            for (int i = 0; i < crowd.bodyCount; i++) {
                Body body = crowd.bodies[i];
                if (body.hasTried(a) && body.hasTried(b)) {
                    int above = Integer.compare(body.saidOf(a), body.saidOf(b));
                    wins += above > 0 ? 1 : 0;
                    losses += above < 0 ? 1 : 0;
                    alike += above == 0 ? 1 : 0;
                }
            }
        }

        /** Ways with as many wins as were compared last, or more. */
        int odds() {
            int n = wins + losses;
            int ways = 1;
            int sum = 0;
            for (int i = 0; i <= n; i++) {
                sum += i >= wins ? ways : 0;
                ways = ways * (n - i) / (i + 1);
            }
            return sum;
        }

        /** The score of a seat, times UNIT. */
        int sixtiethsOf(Crowd crowd, int seat) {
            int sum = 0;
            for (int i = 0; i < crowd.bodyCount; i++) {
                Body body = crowd.bodies[i];
                int tried = body.triedSeats();
                if (body.hasTried(seat) && tried > 0) {
                    sum += body.saidOf(seat) * UNIT - body.saidTogether() * (UNIT / tried);
                }
            }
            return sum;
        }
    }
}
