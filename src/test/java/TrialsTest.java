/** Promises 26 to 28: trial, against, score. */
public final class TrialsTest {
    private static final int FAR_BAD = -1000000000;
    private static final String SEAT = "s100,300,600,200;p0,0,1;";
    private static final Check check = new Check();

    public static void main(String[] args) {
        trial();
        against();
        allOdds();
        score();
        seatsLaidNoMore();
        wrongNumbers();
        check.end("TrialsTest");
    }

    private static LongSeats seatsAndBodies(int seats, int bodies) {
        LongSeats x = new LongSeats();
        Check.layText(x, "l1,1;" + SEAT.repeat(seats));
        for (int i = 0; i < bodies; i++) {
            x.body(500, 300, 500, 500, 300, 1);
        }
        return x;
    }

    private static void trial() {
        LongSeats x = seatsAndBodies(2, 2);
        check.due("said -1", x.trial(0, 0, -1), LongSeats.BAD);
        check.due("said 101", x.trial(0, 0, 101), LongSeats.BAD);
        check.due("none came", x.count(6), 0);
        for (int i = 1; i <= 60; i++) {
            check.due("trial", x.trial(0, 0, i % 2 == 0 ? 0 : 100), i);
        }
        check.due("FULL", x.trial(0, 1, 50), LongSeats.FULL);
        check.due("BAD ahead of FULL", x.trial(2, 1, 50), LongSeats.BAD);
        check.due("60", x.count(6), 60);
        check.due("the last was not taken", x.against(0, 1, 2), 0);
        check.due("only one seat tried", x.score(0, 0), 0);
    }

    private static void against() {
        LongSeats x = seatsAndBodies(3, 6);
        check.due("none tried", x.against(0, 1, 0), 0);
        check.due("one way of none", x.against(0, 1, 3), 1);
        int[][] said = {{50, 40}, {51, 50}, {0, 0}, {10, 100}, {100, 0}};
        for (int i = 0; i < said.length; i++) {
            x.trial(i, 0, said[i][0]);
            x.trial(i, 1, said[i][1]);
        }
        x.trial(5, 0, 100);
        check.due("wins", x.against(0, 1, 0), 3);
        check.due("losses", x.against(0, 1, 1), 1);
        check.due("alike", x.against(0, 1, 2), 1);
        check.due("odds", x.against(0, 1, 3), 5);
        check.due("wins the other way", x.against(1, 0, 0), 1);
        check.due("losses the other way", x.against(1, 0, 1), 3);
        check.due("odds the other way", x.against(1, 0, 3), 15);
        check.due("nobody tried both", x.against(0, 2, 0), 0);
        x.trial(4, 0, 0);
        check.due("the latest counts", x.against(0, 1, 0), 2);
        check.due("the latest counts", x.against(0, 1, 2), 2);
        check.due("odds", x.against(0, 1, 3), 4);
        x.trial(5, 1, 100);
        check.due("tried both now", x.against(0, 1, 2), 3);
    }

    private static void allOdds() {
        for (int n = 0; n <= 12; n++) {
            for (int wins = 0; wins <= n; wins++) {
                LongSeats x = seatsAndBodies(2, 12);
                for (int i = 0; i < n; i++) {
                    x.trial(i, 0, i < wins ? 60 : 40);
                    x.trial(i, 1, 50);
                }
                int ways = 0;
                for (int way = 0; way < 1 << n; way++) {
                    ways += Integer.bitCount(way) >= wins ? 1 : 0;
                }
                check.due("odds of " + wins + " in " + n, x.against(0, 1, 3), ways);
            }
        }
    }

    private static void score(LongSeats x, int seat, int above, int below) {
        check.due("score above of " + seat, x.score(seat, 0), above);
        check.due("score below of " + seat, x.score(seat, 1), below);
    }

    private static void score() {
        LongSeats x = seatsAndBodies(6, 12);
        score(x, 0, 0, 1);
        x.trial(0, 0, 100);
        score(x, 0, 0, 1);
        x.trial(0, 1, 0);
        score(x, 0, 50, 1);
        score(x, 1, -50, 1);
        x.trial(0, 2, 0);
        score(x, 0, 200, 3);
        score(x, 1, -100, 3);
        x.trial(1, 0, 1);
        x.trial(1, 1, 0);
        score(x, 0, 200 * 2 + 3, 6);
        x.trial(1, 0, 0);
        score(x, 0, 200, 3);
        for (int seat = 0; seat < 6; seat++) {
            x.trial(2, seat, seat == 5 ? 1 : 0);
        }
        score(x, 5, 5, 6);
        for (int seat = 0; seat < 5; seat++) {
            x.trial(3, seat, seat == 4 ? 1 : 0);
        }
        score(x, 4, 4 * 6 - 5, 30);
        for (int seat = 0; seat < 4; seat++) {
            x.trial(4, seat, seat == 3 ? 1 : 0);
        }
        // 3/4 less 1/5 less 1/6
        score(x, 3, 23, 60);
    }

    private static void seatsLaidNoMore() {
        LongSeats x = seatsAndBodies(3, 1);
        x.trial(0, 0, 10);
        x.trial(0, 2, 40);
        Check.layText(x, "l1,1;" + SEAT);
        score(x, 0, -15, 1);
        check.due("no such seat", x.score(2, 0), FAR_BAD);
        check.due("no such seat", x.against(0, 2, 0), LongSeats.BAD);
        check.due("no such seat", x.trial(0, 2, 0), LongSeats.BAD);
        Check.layText(x, "l1,1;" + SEAT.repeat(3));
        check.due("laid again", x.against(2, 0, 0), 1);
        score(x, 2, 15, 1);
        check.due("how many", x.trial(0, 1, 0), 3);
    }

    private static void wrongNumbers() {
        LongSeats x = seatsAndBodies(2, 2);
        int[] wrong = {-1, 2, 6, 12, Integer.MIN_VALUE, Integer.MAX_VALUE};
        for (int v : wrong) {
            check.due("trial body", x.trial(v, 0, 0), LongSeats.BAD);
            check.due("trial seat", x.trial(0, v, 0), LongSeats.BAD);
            check.due("against a", x.against(v, 0, 0), LongSeats.BAD);
            check.due("against b", x.against(0, v, 0), LongSeats.BAD);
            check.due("score seat", x.score(v, 0), FAR_BAD);
            check.due("score part", x.score(0, v), FAR_BAD);
        }
        check.due("a is b", x.against(1, 1, 0), LongSeats.BAD);
        check.due("what -1", x.against(0, 1, -1), LongSeats.BAD);
        check.due("what 4", x.against(0, 1, 4), LongSeats.BAD);
        check.due("none came", x.count(6), 0);
    }
}
