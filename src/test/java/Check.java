import java.nio.charset.StandardCharsets;

/** What the tests share: counting wrong answers, and feeding a text. */
final class Check {
    private static int wrong = 0;
    private static int asked = 0;
    private static String promise = "";

    private Check() {
    }

    static void promise(String name) {
        promise = name;
    }

    static void due(String call, long got, long want) {
        asked++;
        if (got != want) {
            wrong++;
            System.out.println(promise + ": " + call + " answered " + got + ", due is " + want);
        }
    }

    /** Answers in a row, each of one call with another last word. */
    static void dueRow(String calls, long[] got, long... want) {
        due(calls + ": how many", got.length, want.length);
        for (int i = 0; i < Math.min(got.length, want.length); i++) {
            due(calls + " at " + i, got[i], want[i]);
        }
    }

    static void finish() {
        System.out.println(asked + " answers, " + wrong + " not as due");
        if (wrong != 0) {
            System.exit(1);
        }
    }

    static int four(byte[] bytes, int at) {
        int v = 0;
        for (int i = 0; i < 4; i++) {
            v = v << 8 | (at + i < bytes.length ? bytes[at + i] & 255 : ' ');
        }
        return v;
    }

    /** Puts a text behind the TAPE, which is empty or holds a multiple of 20 bytes. */
    static void feed(YearAgo x, String text) {
        byte[] bytes = text.getBytes(StandardCharsets.ISO_8859_1);
        int before = x.count(5);
        for (int at = 0; at < bytes.length; at += 20) {
            x.feed(four(bytes, at), four(bytes, at + 4), four(bytes, at + 8), four(bytes, at + 12), four(bytes, at + 16));
        }
        x.end(before + bytes.length);
    }

    static int tell(YearAgo x, String text) {
        feed(x, text);
        return x.market();
    }

    static YearAgo market(String text) {
        YearAgo x = new YearAgo();
        int lines = tell(x, text);
        if (lines < 0) {
            wrong++;
            System.out.println(promise + ": a test's own text is refused: fault " + x.fault(0) + " at " + x.fault(1));
        }
        return x;
    }
}
