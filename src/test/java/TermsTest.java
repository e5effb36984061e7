/** The bounds that the document's terms name, one sentence after the other, just at them and just beyond. */
public final class TermsTest {
    private static final int NONE = LongSeats.NONE;
    private static final Check check = new Check();

    public static void main(String[] args) {
        squeezedByNothing();
        squeezedToTheStop();
        beyondAllPieces();
        hangLowersHere();
        pressIsCut();
        firstOfSeveral();
        settingsFromFirstToLast();
        eachReasonToFit();
        slackAtItsBounds();
        bestOfSeveralSettings();
        shareJustEnough();
        markAtItsBounds();
        easeNotBelowNothing();
        hoursFirstAndLast();
        stopsFirstAndLast();
        throughIsCut();
        dayOnAllRoads();
        yearIsCut();
        wornAtMost();
        wornBelowTheTop();
        yearsUntil();
        latestCounts();
        oddsOfAll();
        scoreInLowestTerms();
        check.end("TermsTest");
    }

    private static LongSeats seat(String text, int weight) {
        return Scenes.oneSeat(text, weight);
    }

    private static void level(LongSeats x, int above, int below) {
        check.due("level above", x.level(0, 0, 0), above);
        check.due("level below", x.level(0, 0, 1), below);
    }

    private static void push(LongSeats x, int patch, int above, int below) {
        check.due("push above of " + patch, x.push(0, 0, patch, 0), above);
        check.due("push below of " + patch, x.push(0, 0, patch, 1), below);
    }

    private static void squeezedByNothing() {
        // the first patch bears 100 at 10 mm: there the second one just is not squeezed
        String text = "l100,10;" + Scenes.SEAT + "p0,100,100;p0,#,100;";
        LongSeats below = seat(text.replace("#", "89"), 100);
        check.due("squeezed by less than 0", below.bears(0, 0, 1), 0);
        push(below, 1, 0, 1);
        LongSeats at = seat(text.replace("#", "90"), 100);
        check.due("squeezed by 0", at.bears(0, 0, 1), 0);
        push(at, 1, 0, 1);
        check.due("no press", at.press(0, 0, 1), 0);
        LongSeats above = seat(text.replace("#", "91"), 100);
        check.due("squeezed by 1/2", above.bears(0, 0, 1), 1);
        push(above, 1, 5, 1);
        push(above, 0, 95, 1);
    }

    private static void squeezedToTheStop() {
        String text = "l10,10,10,20;" + Scenes.SEAT + "p0,100,1;";
        check.due("299: just not", seat(text, 299).bears(0, 0, 0), 1);
        check.due("300: as much as its pieces", seat(text, 300).bears(0, 0, 0), 2);
        check.due("301: more", seat(text, 301).bears(0, 0, 0), 2);
        level(seat(text, 299), 1601, 20);
        level(seat(text, 300), 80, 1);
    }

    private static void beyondAllPieces() {
        String text = "l1,1;" + Scenes.SEAT + "p0,0,1;";
        level(seat(text, 2000), -2999, 1000);
        level(seat(text, 1001), -2, 1);
        String six = "l1,1;" + Scenes.SEAT + "p0,200,1;".repeat(6);
        // 6 for the first mm of all, then 6000 for each
        level(seat(six, 106), 200 * 60 - 61, 60);
        push(seat(six, 106), 5, 53, 3);
    }

    private static void hangLowersHere() {
        LongSeats x = seat("l100,10;" + Scenes.SEAT + "p0,100,1;".repeat(6), 600);
        level(x, 90, 1);
        x.hang(0, 5, 100);
        // the last patch alone, 60 mm: the others would be squeezed from 100 on
        level(x, 140, 1);
        push(x, 5, 600, 1);
        push(x, 4, 0, 1);
        x.hang(0, 5, 0);
        level(x, 90, 1);
    }

    private static void pressIsCut() {
        LongSeats x = seat("l100,10;" + Scenes.SEAT + "p0,100,3;p0,100,400;", 199);
        check.due("9950 by 3", x.press(0, 0, 0), 3316);
        check.due("9950 by 400", x.press(0, 0, 1), 24);
        LongSeats whole = seat("l100,10;" + Scenes.SEAT + "p0,100,4;p0,100,398;", 200);
        check.due("10000 by 4", whole.press(0, 0, 0), 2500);
        check.due("10000 by 398", whole.press(0, 0, 1), 25);
    }

    private static void firstOfSeveral() {
        String head = "l100,10;" + Scenes.SEAT;
        check.due("all alike", seat(head + "p0,100,7;".repeat(6), 600).press(0, 0, -1), 0);
        check.due("the last", seat(head + "p0,100,7;".repeat(5) + "p0,100,6;", 600).press(0, 0, -1), 5);
        check.due("two alike", seat(head + "p0,100,7;p0,100,6;p0,100,7;p0,100,6;", 600).press(0, 0, -1), 1);
        check.due("one patch", seat(head + "p0,100,7;", 600).press(0, 0, -1), 0);
    }

    private static LongSeats body(String seat, int leg, int reach, int eye, int hip) {
        LongSeats x = new LongSeats();
        Check.layText(x, "l1,1;" + seat + "p0,0,1;");
        x.body(500, leg, reach, eye, hip, 3);
        return x;
    }

    private static void settingsFromFirstToLast() {
        for (int height = 0; height <= 9; height++) {
            int mm = 400 + 20 * height;
            LongSeats x = body("s400,500,600,450;", mm, 1200, 1100, 200);
            x.slack(0);
            for (int at = 0; at <= 9; at++) {
                check.due("leg " + mm + " at " + at, x.fits(0, 0, at, 0), at == height ? 1 : 0);
            }
            check.due("its one height", x.setting(0, 0), 10 * height);
            check.due("for all of them", x.setting(0, 1), 3);
        }
        for (int way = 0; way <= 9; way++) {
            LongSeats x = body("s400,500,600,450;", 400, 500 + 30 * way, 1100, 200);
            for (int at = 0; at <= 9; at++) {
                check.due("reach for " + way + " at " + at, x.fits(0, 0, 0, at), at <= way ? 1 : 0);
            }
        }
    }

    private static void eachReasonToFit() {
        // at height 9 (580 mm) and way 9 (770 mm): each number just so, and just not
        String seat = "s400,500,1200,450;";
        check.due("just so", body(seat, 580, 770, 620, 450).fits(0, 0, 9, 9), 1);
        check.due("leg", body(seat, 579, 770, 620, 450).fits(0, 0, 9, 9), 0);
        check.due("leg and slack", body(seat, 640, 770, 620, 450).fits(0, 0, 9, 9), 1);
        check.due("leg beyond slack", body(seat, 641, 770, 620, 450).fits(0, 0, 9, 9), 0);
        check.due("reach", body(seat, 580, 769, 620, 450).fits(0, 0, 9, 9), 0);
        check.due("eye", body(seat, 580, 770, 619, 450).fits(0, 0, 9, 9), 0);
        check.due("hip", body(seat, 580, 770, 620, 451).fits(0, 0, 9, 9), 0);
        check.due("at some: just so", body(seat, 580, 500, 620, 450).fits(0, 0, -1, 0), 1);
        check.due("at some: leg", body(seat, 579, 500, 620, 450).fits(0, 0, -1, 0), 0);
        check.due("at some: leg beyond slack", body(seat, 641, 500, 620, 450).fits(0, 0, -1, 0), 0);
        check.due("at some: reach", body(seat, 580, 499, 620, 450).fits(0, 0, -1, 0), 0);
        check.due("at some: eye", body(seat, 580, 500, 619, 450).fits(0, 0, -1, 0), 0);
        check.due("at some: hip", body(seat, 580, 500, 620, 451).fits(0, 0, -1, 0), 0);
        check.due("at the lowest alone", body("s400,500,600,450;", 400, 500, 600, 450).fits(0, 0, -1, 0), 1);
    }

    private static void slackAtItsBounds() {
        LongSeats x = body("s400,500,600,450;", 401, 500, 600, 450);
        x.slack(0);
        check.due("no slack, 1 mm too much", x.fits(0, 0, -1, 0), 0);
        x.slack(1);
        check.due("slack of 1", x.fits(0, 0, -1, 0), 1);
        LongSeats far = body("s400,500,600,450;", 700, 500, 600, 450);
        far.slack(299);
        check.due("slack of 299", far.fits(0, 0, 0, 0), 0);
        far.slack(300);
        check.due("slack of 300", far.fits(0, 0, 0, 0), 1);
    }

    private static void bestOfSeveralSettings() {
        LongSeats x = body("s400,500,600,450;", 440, 500, 600, 450);
        check.due("of heights 0 to 2 the lowest", x.setting(0, 0), 0);
        x.body(500, 500, 500, 600, 450, 3);
        check.due("both at height 2 alone", x.setting(0, 0), 20);
        check.due("both", x.setting(0, 1), 6);
        x.body(500, 580, 770, 600, 450, 1);
        check.due("one more elsewhere are fewer", x.setting(0, 0), 20);
        LongSeats one = new LongSeats();
        Check.layText(one, "l1,1;s400,500,1180,450;p0,0,1;");
        one.body(500, 580, 770, 600, 450, 1);
        check.due("one person, at the highest", one.setting(0, 0), 90);
        check.due("one person", one.setting(0, 1), 1);
        LongSeats beyond = body("s400,500,600,450;", 600, 500, 600, 450);
        beyond.slack(0);
        check.due("a height of 10 would fit", beyond.setting(0, 0), 0);
        check.due("but there is none", beyond.setting(0, 1), 0);
        check.due("but there is none", beyond.fits(0, 0, -1, 0), 0);
        check.due("but there is none", beyond.share(1, 0), 0);
        LongSeats none = body("s400,500,600,450;", 399, 500, 600, 450);
        check.due("nobody", none.setting(0, 0), 0);
        check.due("nobody", none.setting(0, 1), 0);
    }

    private static void shareJustEnough() {
        LongSeats x = body("s400,500,600,450;", 400, 500, 600, 450);
        x.body(500, 250, 500, 600, 450, 997);
        check.due("3 of 1000", x.fewest(3), 1);
        check.due("just not 4 of 1000", x.fewest(4), NONE);
        x.body(500, 250, 500, 600, 450, 1);
        check.due("just not 3 of 1001", x.fewest(3), NONE);
        check.due("2 of 1001", x.fewest(2), 1);
        LongSeats all = body("s400,500,600,450;", 400, 500, 600, 450);
        check.due("all of them", all.fewest(1000), 1);
        LongSeats most = new LongSeats();
        Check.layText(most, "l1,1;" + "s400,500,600,450;p0,0,1;");
        for (int i = 0; i < 12; i++) {
            most.body(500, i < 11 ? 400 : 399, 500, 600, 450, 1000);
        }
        check.due("11000 of 12000", most.fewest(916), 1);
        check.due("just not 917", most.fewest(917), NONE);
    }

    /** One patch, whose press is the weight. */
    private static LongSeats pressed(int press) {
        return seat("l100,50;" + Scenes.SEAT + "p0,100,100;", press);
    }

    private static void markAtItsBounds() {
        check.due("press 300 does not hurt", pressed(300).hours(0, 0, 1), NONE);
        check.due("press 301 does", pressed(301).hours(0, 0, 1), 1);
        LongSeats x = pressed(100);
        x.law(0, 0);
        check.due("all of it", x.hours(0, 0, 100), 1);
        check.due("no more", x.hours(0, 0, 101), 2);
        LongSeats hard = seat("l100,200;" + Scenes.SEAT + "p0,100,1;", 201);
        hard.law(0, 20000);
        check.due("100 beyond the highest mark", hard.hours(0, 0, 100), 1);
        check.due("100 beyond the highest mark", hard.hours(0, 0, 101), 2);
    }

    private static void easeNotBelowNothing() {
        LongSeats x = pressed(400);
        x.law(1, 99);
        check.due("1 is left", x.stops(0, 0, 2, 1, -1), 101);
        x.law(1, 100);
        check.due("nothing is left", x.stops(0, 0, 2, 1, -1), 100);
        x.law(1, 101);
        check.due("not below 0", x.stops(0, 0, 2, 1, -1), 100);
        x.law(1, 1000);
        check.due("not below 0", x.stops(0, 0, 2, 1, -1), 100);
        x.law(1, 0);
        check.due("no ease at all", x.stops(0, 0, 2, 1, -1), 200);
    }

    private static void hoursFirstAndLast() {
        LongSeats x = pressed(400);
        check.due("the first hour", x.hours(0, 0, 100), 1);
        check.due("the second", x.hours(0, 0, 101), 2);
        check.due("the last hour", x.hours(0, 0, 2400), 24);
        check.due("none behind it", x.hours(0, 0, 2401), NONE);
        LongSeats most = seat("l100,200;" + Scenes.SEAT + "p0,100,1;", 2000);
        check.due("199700 an hour", most.hours(0, 0, 100000), 1);
        LongSeats last = seat("l100,200;" + Scenes.SEAT + "p0,100,100;", 2000);
        last.law(0, 0);
        check.due("2000 an hour", last.hours(0, 0, 48000), 24);
        check.due("just not", last.hours(0, 0, 48001), NONE);
        check.due("just not", last.hours(0, 0, 100000), NONE);
    }

    private static void stopsFirstAndLast() {
        LongSeats x = pressed(400);
        x.law(1, 100);
        check.due("one hour of sitting", x.stops(0, 0, 1, 0, -1), 100);
        check.due("it begins with sitting", x.stops(0, 0, 1, 3, -1), 100);
        for (int i = 0; i < 3; i++) {
            check.due("more than one in a place", x.stops(0, 0, 1, 3, i), 1);
            check.due("each behind another hour", x.stops(0, 0, 4, 3, i), 1 + i);
        }
        check.due("worst", x.stops(0, 0, 4, 3, -1), 100);
        check.due("no stops", x.stops(0, 0, 12, 0, -1), 1200);
        check.due("12 hours, 3 stops", x.stops(0, 0, 12, 3, -1), 900);
        x.law(1, 500);
        // 3 + 3 + 3 + 3 hours: only behind each third is the worst least
        for (int i = 0; i < 3; i++) {
            check.due("the only row", x.stops(0, 0, 12, 3, i), 3 * (i + 1));
        }
        check.due("300", x.stops(0, 0, 12, 3, -1), 300);
        // 4 + 4 + 3 hours and so on: the earlier first stop, then the second
        check.due("first", x.stops(0, 0, 11, 2, 0), 3);
        check.due("second", x.stops(0, 0, 11, 2, 1), 7);
        check.due("worst", x.stops(0, 0, 11, 2, -1), 400);
        check.due("one hour of sitting, nothing to ease", x.stops(0, 0, 1, 1, 0), 1);
        // on new objects: fewer stops than three do not lean on what three left behind
        for (int k = 1; k <= 3; k++) {
            for (int i = 0; i < k; i++) {
                LongSeats fresh = pressed(400);
                fresh.law(1, 1000);
                check.due("stop " + i + " of " + k, fresh.stops(0, 0, 3 * k + 3, k, i), 3 * (i + 1));
            }
        }
    }

    private static void throughIsCut() {
        // pushes of 66 2/3 and 33 1/3: 66 and 33 count
        String head = "l100,20;t0,1,0,2,300;l100,10;t1,0,1,2,299;" + Scenes.SEAT + "p0,100,1;p1,100,1;";
        LongSeats x = seat(head, 100);
        for (int tone = 0; tone < 4; tone++) {
            x.road(0, tone, 1000);
            x.road(1, tone, tone == 3 ? 333 : 49);
        }
        check.due("66 by 99", x.through(0, 0, 0, 0), 0);
        check.due("33 by 99", x.through(0, 0, 0, 1), 0);
        check.due("198 by 99", x.through(0, 0, 0, 2), 20);
        check.due("29667 by 99: 299", x.through(0, 0, 0, 3), 2990);
        check.due("299 times 333 by 100", x.through(0, 0, 1, 3), 995);
        check.due("2 times 49 by 100", x.through(0, 0, 1, 2), 0);
        x.road(1, 2, 50);
        check.due("2 times 50 by 100", x.through(0, 0, 1, 2), 1);
        LongSeats most = seat("l100,20;t0,300,300,300,300;" + Scenes.SEAT + "p0,100,1;".repeat(6), 2000);
        most.road(3, 3, 1000);
        check.due("all that can come", most.through(0, 0, 3, 3), 3000);
    }

    private static void dayOnAllRoads() {
        LongSeats x = seat("l100,20;" + Scenes.SEAT + "p0,100,1;", 100);
        for (int i = 0; i < 16; i++) {
            x.road(i / 4, i % 4, 1 + i);
        }
        // 1 + 4 + 9 + 16, 25 + .. + 64, 81 + .. + 144, 169 + .. + 256
        int[] hour = {30, 174, 446, 846};
        check.due("road 0", x.dose(0, 0, 24, 0, 0, 0), 24L * hour[0]);
        check.due("road 1", x.dose(0, 0, 0, 24, 0, 0), 24L * hour[1]);
        check.due("road 2", x.dose(0, 0, 0, 0, 24, 0), 24L * hour[2]);
        check.due("road 3", x.dose(0, 0, 0, 0, 0, 24), 24L * hour[3]);
        check.due("no hour", x.dose(0, 0, 0, 0, 0, 0), 0);
        check.due("more than a day has", x.dose(0, 0, 24, 24, 24, 24), 24L * 1496);
    }

    private static void yearIsCut() {
        LongSeats x = seat("l100,20;" + Scenes.SEAT + "p0,100,1;", 1000);
        x.years(0, 0, 999, 20);
        check.due("999000 a year", x.worn(0, 0), 0);
        x.years(0, 0, 1000, 1);
        check.due("1000000 a year", x.worn(0, 0), 1);
        x.years(0, 0, 1999, 1);
        check.due("1999000 a year", x.worn(0, 0), 2);
        x.years(0, 0, 1, 1);
        check.due("1000 a year", x.worn(0, 0), 2);
        x.years(0, 0, 5000, 1);
        check.due("5000000 a year", x.worn(0, 0), 7);
        // pushes of 200 1/2 each count as 200
        LongSeats half = seat("l100,20;" + Scenes.SEAT + "p0,100,1;p0,100,1;", 401);
        half.years(0, 0, 4999, 1);
        check.due("200 times 4999", half.worn(0, 0), 0);
        half.years(0, 0, 5000, 1);
        check.due("200 times 5000", half.worn(0, 1), 1);
    }

    private static void wornAtMost() {
        LongSeats x = seat("l100,20;" + Scenes.SEAT + "p0,100,1;", 600);
        // 3 a year
        x.years(0, 0, 5000, 20);
        x.years(0, 0, 5000, 13);
        check.due("33 years", x.worn(0, 0), 99);
        level(x, -29, 1);
        x.years(0, 0, 5000, 1);
        check.due("34 years", x.worn(0, 0), 100);
        level(x, -30, 1);
        x.years(0, 0, 5000, 20);
        check.due("54 years", x.worn(0, 0), 100);
        level(x, -30, 1);
    }

    private static void wornBelowTheTop() {
        LongSeats x = seat("l100,20;" + Scenes.SEAT + "p0,0,1;", 2000);
        level(x, -100, 1);
        x.years(0, 0, 5000, 1);
        check.due("worn below 0", x.worn(0, 0), 10);
        level(x, -110, 1);
        x.years(0, 0, 5000, 20);
        check.due("as low as it goes", x.worn(0, 0), 100);
        level(x, -200, 1);
    }

    private static void yearsUntil() {
        // 200/399 and 199/399 of 399: the first wears alone, then, 1 mm lower, the second alone, and so on
        String text = "l100,200;l100,199;" + Scenes.SEAT + "p0,100,1;p1,100,1;";
        LongSeats x = seat(text, 399);
        check.due("the first year", x.until(0, 0, 5000, 1), 1);
        check.due("the third", x.until(0, 0, 5000, 2), 3);
        check.due("the year 99", x.until(0, 0, 5000, 50), 99);
        check.due("the year 101 is none", x.until(0, 0, 5000, 51), NONE);
        x.years(0, 0, 5000, 1);
        check.due("it is so", x.until(0, 0, 5000, 1), 0);
        check.due("from now it is the year 100", x.until(0, 0, 5000, 51), 100);
        check.due("from now it is none", x.until(0, 0, 5000, 52), NONE);
        check.due("worn", x.worn(0, 0), 1);
        check.due("worn", x.worn(0, 1), 0);
        LongSeats most = seat("l100,20;" + Scenes.SEAT + "p0,100,1;", 200);
        check.due("1 a year, to 100", most.until(0, 0, 5000, 100), 100);
        check.due("just not 1 a year", most.until(0, 0, 4999, 1), NONE);
    }

    private static void latestCounts() {
        LongSeats x = Scenes.twoSeats();
        x.trial(0, 0, 100);
        x.trial(0, 1, 0);
        check.due("above", x.against(0, 1, 0), 1);
        x.trial(0, 0, 0);
        check.due("alike", x.against(0, 1, 2), 1);
        check.due("above no more", x.against(0, 1, 0), 0);
        x.trial(0, 1, 1);
        check.due("below by 1", x.against(0, 1, 1), 1);
        x.trial(0, 0, 2);
        check.due("above by 1", x.against(0, 1, 0), 1);
        check.due("all of them are counted", x.count(6), 5);
        x.trial(1, 0, 5);
        check.due("tried one only", x.against(0, 1, 0), 1);
    }

    private static void oddsOfAll() {
        LongSeats x = new LongSeats();
        Check.layText(x, "l1,1;" + (Scenes.SEAT + Scenes.PATCH).repeat(2));
        for (int i = 0; i < 12; i++) {
            x.body(500, 300, 500, 500, 300, 1);
            x.trial(i, 0, 1);
            x.trial(i, 1, 0);
        }
        check.due("12 of 12", x.against(0, 1, 3), 1);
        check.due("0 of 12", x.against(1, 0, 3), 4096);
        x.trial(11, 0, 0);
        check.due("11 of 11", x.against(0, 1, 3), 1);
        check.due("0 of 11", x.against(1, 0, 3), 2048);
        x.trial(11, 1, 1);
        check.due("11 of 12", x.against(0, 1, 3), 13);
        check.due("1 of 12", x.against(1, 0, 3), 4095);
    }

    private static void scoreInLowestTerms() {
        LongSeats x = new LongSeats();
        Check.layText(x, "l1,1;" + (Scenes.SEAT + Scenes.PATCH).repeat(6));
        for (int i = 0; i < 12; i++) {
            x.body(500, 300, 500, 500, 300, 1);
        }
        for (int seat = 0; seat < 6; seat++) {
            x.trial(0, seat, seat == 0 ? 100 : 0);
        }
        score(x, 0, 250, 3);
        score(x, 5, -50, 3);
        for (int seat = 0; seat < 6; seat++) {
            x.trial(11, seat, seat == 0 ? 99 : 0);
        }
        score(x, 0, 995, 6);
        score(x, 5, -199, 6);
        LongSeats most = Scenes.twoSeats();
        for (int i = 0; i < 3; i++) {
            most.trial(i, 0, 0);
            most.trial(i, 1, 100);
        }
        score(most, 0, -150, 1);
        score(most, 1, 150, 1);
    }

    private static void score(LongSeats x, int seat, int above, int below) {
        check.due("score above of " + seat, x.score(seat, 0), above);
        check.due("score below of " + seat, x.score(seat, 1), below);
    }
}
