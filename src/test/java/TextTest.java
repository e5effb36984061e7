/** Promises 1 to 7 and 29: the new object, texts, bodies, counts. */
public final class TextTest {
    private static final Check check = new Check();

    public static void main(String[] args) {
        newObject();
        write();
        wipe();
        faultsOfForm();
        faultsOfLayers();
        faultsOfTones();
        faultsOfSeats();
        faultsOfPatches();
        lay();
        body();
        hang();
        count();
        check.end("TextTest");
    }

    private static void newObject() {
        LongSeats x = new LongSeats();
        for (int what = 0; what <= 6; what++) {
            check.due("new count " + what, x.count(what), 0);
        }
        check.due("new fault", x.fault(), LongSeats.NONE);
        check.due("new slack", x.slack(60), 60);
        check.due("new MARK", x.law(0, 300), 300);
        check.due("new EASE", x.law(1, 50), 50);
        for (int i = 0; i < 16; i++) {
            check.due("new TONE", x.road(i / 4, i % 4, 0), 0);
        }
        check.due("no seat", x.worn(0, 0), LongSeats.BAD);
        check.due("no seat", x.setting(0, 0), LongSeats.BAD);
        check.due("no body", x.hang(0, 0, 0), LongSeats.BAD);
        LongSeats y = new LongSeats();
        Check.layText(y, "l1,1;s100,300,600,200;p0,0,1;");
        y.body(100, 250, 400, 400, 200, 1);
        check.due("another object's seats", x.count(2), 0);
        check.due("another object's bodies", x.count(4), 0);
    }

    private static void write() {
        LongSeats x = new LongSeats();
        check.due("write(0)", x.write(0, 'l'), LongSeats.BAD);
        check.due("write(9)", x.write(9, 'l'), LongSeats.BAD);
        check.due("write(-1)", x.write(-1, 'l'), LongSeats.BAD);
        check.due("write(MIN)", x.write(Integer.MIN_VALUE, 'l'), LongSeats.BAD);
        check.due("write(MAX)", x.write(Integer.MAX_VALUE, 'l'), LongSeats.BAD);
        check.due("nothing is written", x.count(0), 0);
        check.due("write(1)", x.write(1, 'l'), 1);
        check.due("write(4)", x.write(4, 0x312c313bL), 5);
        check.due("as told", x.fault(), LongSeats.NONE);
        check.due("bytes above n do not count", x.write(1, 0x7777777777777700L | 'l'), 6);
        check.due("all eight bytes", x.write(8, 0xffL << 56 | 0x312c313b3b3b3bL), 14);
        check.due("the highest byte came first", x.fault(), 5);

        LongSeats full = new LongSeats();
        for (int i = 1; i <= 37; i++) {
            check.due("write 8", full.write(8, 0), 8 * i);
        }
        check.due("5 beyond 296", full.write(5, 0), LongSeats.FULL);
        check.due("none of them came", full.count(0), 296);
        check.due("4 beyond 296", full.write(4, 0), 300);
        check.due("1 beyond 300", full.write(1, 0), LongSeats.FULL);
        check.due("BAD ahead of FULL", full.write(9, 0), LongSeats.BAD);
        check.due("300 stay", full.wipe(), 300);
    }

    private static void wipe() {
        LongSeats x = new LongSeats();
        check.due("wipe nothing", x.wipe(), 0);
        Check.layText(x, "l1,1;s100,300,600,200;p0,0,1;");
        check.due("wipe", x.wipe(), 29);
        check.due("empty", x.count(0), 0);
        check.due("what is LAID stays", x.count(2), 1);
        check.due("wipe again", x.wipe(), 0);
        check.due("written anew", Check.write(x, "x"), 1);
        check.due("what was there is gone", x.fault(), 0);
    }

    private static void fault(String text, int place) {
        check.due("fault of " + text, Check.faultOf(text), place);
    }

    private static void faultsOfForm() {
        fault("", LongSeats.NONE);
        fault("l1,1;", LongSeats.NONE);
        fault("l0001,0001;", LongSeats.NONE);
        fault("l00001,1;", 0);
        fault("l1,1;l1,00001;", 5);
        fault("l1,1", 0);
        fault("l1,1;l1,1", 5);
        fault("l1,1;l", 5);
        fault("l;", 0);
        fault("l1,;", 0);
        fault("l,1;", 0);
        fault("l1,,1;", 0);
        fault("l1,1,;", 0);
        fault("l1.1;", 0);
        fault("l 1,1;", 0);
        fault("l1,-1;", 0);
        fault("L1,1;", 0);
        fault("x1,1;", 0);
        fault(";", 0);
        fault("1,1;", 0);
        fault("ll1,1;", 0);
        fault("l1,1;;", 5);
        fault("l1,1; ", 5);
        fault("l1,1\u00ff;", 0);
        fault("l1,1;\u0000", 5);
        fault("l1,1;\u00ec1,1;", 5);
        fault("l1,1;s0,0,0,0;x", 5);
    }

    private static void faultsOfLayers() {
        fault("l100,200;", LongSeats.NONE);
        fault("l0,1;", 0);
        fault("l101,1;", 0);
        fault("l1,0;", 0);
        fault("l1,201;", 0);
        fault("l1;", 0);
        fault("l1,1,1;", 0);
        fault("l1,1,2,2,3,3,4,4;", LongSeats.NONE);
        fault("l1,1,2,2,3,3,101,4;", 0);
        fault("l1,1,2,2,3,3,4,201;", 0);
        fault("l1,1,2,2,3,3,4,0;", 0);
        fault("l1,1,2,2,3,3,4;", 0);
        fault("l1,1,2,2,3,3,4,4,5;", 0);
        fault("l1,1,2,2,3,3,4,4,5,5;", 0);
        fault("l1,1;".repeat(8), LongSeats.NONE);
        fault("l1,1;".repeat(9), 40);
    }

    private static void faultsOfTones() {
        fault("l1,1;t0,0,0,0,0;", LongSeats.NONE);
        fault("l1,1;t0,300,300,300,300;", LongSeats.NONE);
        fault("l1,1;t0,301,0,0,0;", 5);
        fault("l1,1;t0,0,301,0,0;", 5);
        fault("l1,1;t0,0,0,301,0;", 5);
        fault("l1,1;t0,0,0,0,301;", 5);
        fault("l1,1;t0,0,0,0;", 5);
        fault("l1,1;t,0,0,0,0;", 5);
        fault("l1,1;t0,,0,0,0;", 5);
        fault("l1,1;t0,0,0,0,;", 5);
        fault("l1,1;t0,0,0,0,0,0;", 5);
        fault("l1,1;t1,0,0,0,0;l1,1;", 5);
        fault("l1,1;l1,1;t1,0,0,0,0;t0,0,0,0,0;t1,1,1,1,1;", LongSeats.NONE);
        fault("t0,0,0,0,0;", 0);
    }

    private static void faultsOfSeats() {
        fault("s100,300,600,200;", LongSeats.NONE);
        fault("s600,900,1600,700;", LongSeats.NONE);
        fault("s99,300,600,200;", 0);
        fault("s601,300,600,200;", 0);
        fault("s100,299,600,200;", 0);
        fault("s100,901,600,200;", 0);
        fault("s100,300,599,200;", 0);
        fault("s100,300,1601,200;", 0);
        fault("s100,300,600,199;", 0);
        fault("s100,300,600,701;", 0);
        fault("s100,300,600;", 0);
        fault("s100,300,600,200,1;", 0);
        fault("s100,300,600,200;".repeat(6), LongSeats.NONE);
        fault("s100,300,600,200;".repeat(7), 6 * 17);
    }

    private static void faultsOfPatches() {
        String head = "l1,1;s100,300,600,200;";
        fault(head + "p0,0,1;p0,200,400;", LongSeats.NONE);
        fault(head + "p1,0,1;", 22);
        fault(head + "p1,0,1;l1,1;", 22);
        fault(head + "l1,1;p1,0,1;", LongSeats.NONE);
        fault(head + "p0,201,1;", 22);
        fault(head + "p0,0,0;", 22);
        fault(head + "p0,0,401;", 22);
        fault(head + "p0,0;", 22);
        fault(head + "p,0,1;", 22);
        fault(head + "p0,,1;", 22);
        fault(head + "p0,0,1,1;", 22);
        fault("l1,1;p0,0,1;", 5);
        fault(head + "p0,0,1;".repeat(6), LongSeats.NONE);
        fault(head + "p0,0,1;".repeat(7), 22 + 42);
        fault(head + "p0,0,1;".repeat(6) + "s100,300,600,200;p0,0,1;", LongSeats.NONE);
    }

    private static void lay() {
        LongSeats x = new LongSeats();
        check.due("nothing told", x.lay(), 0);
        String one = "l1,1;s100,300,600,200;p0,0,1;";
        check.due("lay", Check.layText(x, one), 1);
        check.due("the text stays", x.count(0), 29);
        check.due("a fault", Check.layText(x, one + "x"), LongSeats.NO);
        check.due("nothing changes", x.count(2), 1);
        check.due("no patches", Check.layText(x, one + "s100,300,600,200;"), LongSeats.NO);
        check.due("no patches first", Check.layText(x, "s100,300,600,200;" + one), LongSeats.NO);
        check.due("nothing changes", x.count(2), 1);
        check.due("nor patches", x.count(3), 1);
        check.due("layers alone", Check.layText(x, "l1,1;l1,1;"), 0);
        check.due("layers", x.count(1), 2);
        check.due("seats", x.count(2), 0);
        x.body(1000, 300, 500, 500, 300, 1);
        Check.layText(x, "l9,150;s100,300,600,200;p0,50,1;");
        x.years(0, 0, 5000, 3);
        check.due("worn", x.worn(0, 0), 15);
        check.due("not LAID", Check.layText(x, "x"), LongSeats.NO);
        check.due("worn still", x.worn(0, 0), 15);
        check.due("a fault asked for", x.fault(), 0);
        check.due("worn still", x.worn(0, 0), 15);
        x.trial(0, 0, 7);
        x.hang(0, 0, 3);
        Check.layText(x, "l9,150;s100,300,600,200;p0,50,1;");
        check.due("worn no more", x.worn(0, 0), 0);
        check.due("years anew", x.years(0, 0, 1, 1), 1);
        check.due("trials stay", x.count(6), 1);
        check.due("bodies stay", x.count(4), 1);
        check.due("hang stays", x.hang(0, 0, 0), 3);
        Check.layText(x, "l9,150;t0,7,7,7,7;l9,150;s100,300,600,200;p1,50,1;");
        x.road(0, 0, 100);
        check.due("tones of another layer", x.through(0, 0, 0, 0), 100);
        Check.layText(x, "l9,150;l9,150;s100,300,600,200;p0,50,1;");
        check.due("tones told before are gone", x.through(0, 0, 0, 0), 100);
    }

    private static void body() {
        LongSeats x = new LongSeats();
        int[] least = {100, 250, 400, 400, 200, 1};
        int[] most = {2000, 700, 1200, 1100, 700, 1000};
        for (int i = 0; i < 6; i++) {
            int[] low = least.clone();
            low[i]--;
            check.due("too little " + i, bodyOf(x, low), LongSeats.BAD);
            int[] high = most.clone();
            high[i]++;
            check.due("too much " + i, bodyOf(x, high), LongSeats.BAD);
            low[i] = Integer.MIN_VALUE;
            check.due("far too little " + i, bodyOf(x, low), LongSeats.BAD);
        }
        check.due("none came", x.count(4), 0);
        for (int i = 0; i < 12; i++) {
            check.due("body", bodyOf(x, i % 2 == 0 ? least : most), i);
        }
        check.due("FULL", bodyOf(x, least), LongSeats.FULL);
        check.due("BAD ahead of FULL", x.body(0, 0, 0, 0, 0, 0), LongSeats.BAD);
        check.due("12", x.count(4), 12);
        check.due("people", x.count(5), 6006);
    }

    private static int bodyOf(LongSeats x, int[] of) {
        return x.body(of[0], of[1], of[2], of[3], of[4], of[5]);
    }

    private static void hang() {
        LongSeats x = new LongSeats();
        x.body(100, 250, 400, 400, 200, 1);
        x.body(100, 250, 400, 400, 200, 1);
        check.due("hang", x.hang(0, 5, 100), 0);
        check.due("of another body", x.hang(1, 5, 1), 0);
        check.due("of another patch", x.hang(0, 0, 2), 0);
        check.due("what it was", x.hang(0, 5, 0), 100);
        check.due("v -1", x.hang(0, 0, -1), LongSeats.BAD);
        check.due("v 101", x.hang(0, 0, 101), LongSeats.BAD);
        check.due("patch -1", x.hang(0, -1, 0), LongSeats.BAD);
        check.due("patch 6", x.hang(0, 6, 0), LongSeats.BAD);
        check.due("body -1", x.hang(-1, 0, 0), LongSeats.BAD);
        check.due("body 2", x.hang(2, 0, 0), LongSeats.BAD);
        check.due("nothing changed", x.hang(0, 0, 0), 2);
    }

    private static void count() {
        LongSeats x = new LongSeats();
        Check.layText(x, "l1,1;l1,1;l1,1;s100,300,600,200;p0,0,1;p2,0,1;s100,300,600,200;p0,0,1;");
        x.body(100, 250, 400, 400, 200, 7);
        x.body(100, 250, 400, 400, 200, 1000);
        x.trial(0, 0, 1);
        x.trial(0, 0, 2);
        int[] want = {70, 3, 2, 3, 2, 1007, 2};
        for (int what = 0; what <= 6; what++) {
            check.due("count " + what, x.count(what), want[what]);
        }
        for (int i = 0; i < 3; i++) {
            Check.layText(x, "l1,1;s100,300,600,200;p0,0,1;");
            check.due("layers laid anew", x.count(1), 1);
            check.due("seats laid anew", x.count(2), 1);
            check.due("patches laid anew", x.count(3), 1);
        }
        check.due("count -1", x.count(-1), LongSeats.BAD);
        check.due("count 7", x.count(7), LongSeats.BAD);
        check.due("count MIN", x.count(Integer.MIN_VALUE), LongSeats.BAD);
    }
}
