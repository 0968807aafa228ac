import java.nio.charset.StandardCharsets;
import java.util.ArrayList;
import java.util.List;

/** What the tests share: counting wrong answers, feeding a text, edges, and what a refused call leaves. */
final class Check {
    /** A call as it answers to one of its numbers. */
    interface Of {
        long at(int n);
    }

    private static int wrong = 0;
    private static int asked = 0;
    private static String promise = "";

    private Check() {
    }

    static void promise(String name) {
        promise = name;
    }

    static void due(String call, long got, long want) {
        asked++;
        if (got != want) {
            wrong++;
            System.out.println(promise + ": " + call + " answered " + got + ", due is " + want);
        }
    }

    /** Answers in a row, each of one call with another last word. */
    static void dueRow(String calls, long[] got, long... want) {
        due(calls + ": how many", got.length, want.length);
        for (int i = 0; i < Math.min(got.length, want.length); i++) {
            due(calls + " at " + i, got[i], want[i]);
        }
    }

    /** The last numbers that are taken and the first that are refused, on both sides, and the farthest. */
    static void edges(String call, int low, int high, long refusal, Of of) {
        for (int n : new int[] {low, high}) {
            due(call + " refuses " + n, of.at(n) == refusal ? 1 : 0, 0);
        }
        for (int n : new int[] {low - 1, high + 1, Integer.MIN_VALUE, Integer.MAX_VALUE}) {
            due(call + " of " + n, of.at(n), refusal);
        }
    }

    /** A call that refuses whatever the number is. */
    static void none(String call, long refusal, Of of) {
        for (int n : new int[] {Integer.MIN_VALUE, -1, 0, 1, Integer.MAX_VALUE}) {
            due(call + " of " + n, of.at(n), refusal);
        }
    }

    /** All that can be seen of a MARKET; IMAGE 2 is taken to see what is MARKED. */
    static long[] state(YearAgo x) {
        List<Long> seen = new ArrayList<>();
        for (int what = 0; what <= 8; what++) {
            seen.add((long) x.count(what));
        }
        seen.add((long) x.fault(0));
        seen.add((long) x.fault(1));
        for (int thing = 0; thing < x.count(1); thing++) {
            for (int day = 0; day < x.count(0); day++) {
                seen.add((long) x.price(thing, day));
                seen.add((long) x.old(thing, day));
                seen.add((long) x.offered(thing, day));
                seen.add((long) x.asked(thing, day));
            }
        }
        for (int seller = 0; seller < x.count(2); seller++) {
            int asks = x.hold(seller, 0);
            x.hold(seller, asks);
            seen.add((long) asks);
            seen.add((long) x.seller(seller, 0));
        }
        x.image(2);
        x.turn();
        for (int thing = 0; thing < x.count(1); thing++) {
            for (int day = 0; day < x.count(0); day++) {
                seen.add((long) x.price(thing, day));
            }
        }
        x.restore(2);
        long[] all = new long[seen.size()];
        for (int i = 0; i < all.length; i++) {
            all[i] = seen.get(i);
        }
        return all;
    }

    static void stays(String behind, YearAgo x, long[] before) {
        dueRow("what stays behind " + behind, state(x), before);
    }

    static void finish() {
        System.out.println(asked + " answers, " + wrong + " not as due");
        if (wrong != 0) {
            System.exit(1);
        }
    }

    static int four(byte[] bytes, int at) {
        int v = 0;
        for (int i = 0; i < 4; i++) {
            v = v << 8 | (at + i < bytes.length ? bytes[at + i] & 255 : ' ');
        }
        return v;
    }

    /** Puts a text behind the TAPE, which is empty or holds a multiple of 20 bytes. */
    static void feed(YearAgo x, String text) {
        byte[] bytes = text.getBytes(StandardCharsets.ISO_8859_1);
        int before = x.count(5);
        for (int at = 0; at < bytes.length; at += 20) {
            x.feed(four(bytes, at), four(bytes, at + 4), four(bytes, at + 8), four(bytes, at + 12), four(bytes, at + 16));
        }
        x.end(before + bytes.length);
    }

    static int tell(YearAgo x, String text) {
        feed(x, text);
        return x.market();
    }

    static YearAgo market(String text) {
        YearAgo x = new YearAgo();
        int lines = tell(x, text);
        if (lines < 0) {
            wrong++;
            System.out.println(promise + ": a test's own text is refused: fault " + x.fault(0) + " at " + x.fault(1));
        }
        return x;
    }
}
