import java.util.List;

/** Counts answers that are not due, and helps tests to write texts. */
final class Check {
    private int wrong = 0;
    private int seen = 0;

    void due(String call, long got, long want) {
        seen++;
        if (got != want) {
            wrong++;
            System.out.println(call + " answered " + got + ", due is " + want);
        }
    }

    void isTrue(String what, boolean so) {
        seen++;
        if (!so) {
            wrong++;
            System.out.println("not so: " + what);
        }
    }

    /** Rows of answers; tells the first that differs. */
    void same(String what, List<String> got, List<String> want) {
        seen++;
        if (!got.equals(want)) {
            wrong++;
            int at = 0;
            while (at < got.size() && at < want.size() && got.get(at).equals(want.get(at))) {
                at++;
            }
            String is = at < got.size() ? got.get(at) : "nothing";
            String was = at < want.size() ? want.get(at) : "nothing";
            System.out.println(what + ": " + is + ", due is " + was);
        }
    }

    int wrongOnes() {
        return wrong;
    }

    void end(String name) {
        System.out.println(name + ": " + seen + " looked at, " + wrong + " wrong");
        if (wrong > 0 || seen == 0) {
            System.exit(1);
        }
    }

    /** Puts a text behind THE TEXT, some bytes a call: the last answer. */
    static int write(LongSeats x, String text) {
        int answer = x.count(0);
        for (int at = 0; at < text.length(); at += 8) {
            int n = Math.min(8, text.length() - at);
            long v = 0;
            for (int i = 0; i < n; i++) {
                v = v << 8 | text.charAt(at + i);
            }
            answer = x.write(n, v);
        }
        return answer;
    }

    static int layText(LongSeats x, String text) {
        x.wipe();
        write(x, text);
        return x.lay();
    }

    static int faultOf(String text) {
        LongSeats x = new LongSeats();
        write(x, text);
        return x.fault();
    }
}
