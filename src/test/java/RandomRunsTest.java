import java.lang.reflect.InvocationTargetException;
import java.lang.reflect.Method;
import java.util.Arrays;
import java.util.HashMap;
import java.util.Map;
import java.util.Random;

/** Runs of calls, drawn from fixed seeds: the program answers as the oracle does. */
public final class RandomRunsTest {
    private static final Map<String, Method> CALLS = new HashMap<>();

    /** The kinds of the numbers that a call takes: t thing, d day, s seller, b buyer, n price, others as drawn. */
    private static final String[] KINDS = {
        "price td", "old td", "offered td", "asked td", "sold td", "seller sw", "gets sd", "stock sd", "buyer bw",
        "rich w", "best s", "worth sd", "thursday s", "asks s", "hold sn", "cheapest b", "buys bd", "crowd b",
        "mark tdn", "mark tdn", "mark tdn", "turn ", "made sdn", "least sdg", "most s", "leap tdw", "come tdn",
        "agree ltd", "told ltdw", "odd l", "passing tw", "like ttktk", "queue td", "spoils td", "shape tw",
        "dearer tt", "keeping sk", "enough s", "clears td", "poor b", "village vw", "chance bdw", "lots xb",
        "years xkb", "count w", "image i", "restore i", "row liz", "write lzV", "write lzc", "paste lzlzz", "fault w",
        "end z", "feed xxxxx", "market "
    };

    private RandomRunsTest() {
    }

    public static void main(String[] args) throws IllegalAccessException, InvocationTargetException {
        for (Method m : YearAgo.class.getDeclaredMethods()) {
            CALLS.put(m.getName(), m);
        }
        int runs = args.length > 0 ? Integer.parseInt(args[0]) : 1000;
        int first = args.length > 1 ? Integer.parseInt(args[1]) : 1;
        int calls = 0;
        for (int run = first; run < first + runs; run++) {
            calls += run(run);
        }
        System.out.println(runs + " runs, " + calls + " calls");
        Check.finish();
    }

    private static int run(int seed) throws IllegalAccessException, InvocationTargetException {
        Random r = new Random(seed);
        YearAgo x = new YearAgo();
        Oracle oracle = new Oracle();
        Check.promise("run " + seed);
        int size = r.nextInt(4);
        int calls = 0;
        if (r.nextInt(12) != 0) {
            calls += tell(r, x, oracle, text(r, size));
        }
        int dear = 0;
        // Nothing is promised of a 513th call; a market's text may take a hundred.
        for (int i = 0; i < 300 && calls < 400; i++) {
            String kind = KINDS[r.nextInt(KINDS.length)];
            String call = kind.substring(0, kind.indexOf(' '));
            boolean slow = call.equals("most") || call.equals("asks") || call.equals("poor") || call.equals("least");
            if (slow && ++dear > 6) {
                continue;
            }
            if (call.equals("market") && r.nextInt(3) != 0) {
                continue;
            }
            if (call.equals("market")) {
                calls += tell(r, x, oracle, r.nextInt(3) == 0 ? spoil(r, text(r, size)) : text(r, size));
                continue;
            }
            calls += same(x, oracle, call, draw(r, oracle, kind.substring(kind.indexOf(' ') + 1)));
            if (call.equals("row") && r.nextInt(2) == 0) {
                calls += crowds(r, x, oracle);
            }
        }
        return calls;
    }

    /** A row of triples that are mostly crowds. */
    private static int crowds(Random r, YearAgo x, Oracle oracle) throws IllegalAccessException, InvocationTargetException {
        int slot = r.nextInt(4);
        int n = r.nextInt(4);
        int calls = same(x, oracle, "row", slot, r.nextInt(4), 3 * n);
        int things = (int) oracle.answer("count", new long[] {1});
        int days = (int) oracle.answer("count", new long[] {0});
        for (int i = 0; i < n; i++) {
            calls += same(x, oracle, "write", slot, 3 * i, r.nextInt(Math.max(1, things)));
            calls += same(x, oracle, "write", slot, 3 * i + 1, r.nextInt(Math.max(1, Math.min(days, 3))));
            calls += same(x, oracle, "write", slot, 3 * i + 2, r.nextInt(4));
        }
        calls += same(x, oracle, "odd", slot);
        for (int day = 0; day < 3; day++) {
            calls += same(x, oracle, "agree", slot, 0, day);
            calls += same(x, oracle, "told", slot, 0, day, 0);
            calls += same(x, oracle, "told", slot, 0, day, 1);
        }
        return calls;
    }

    private static long[] draw(Random r, Oracle oracle, String kinds) {
        long[] args = new long[kinds.length()];
        for (int i = 0; i < args.length; i++) {
            args[i] = drawOne(r, oracle, kinds.charAt(i));
        }
        return args;
    }

    private static long drawOne(Random r, Oracle oracle, char kind) {
        if (kind == 'V') {
            return r.nextInt(3) == 0 ? r.nextLong() : r.nextInt(8) - 1;
        }
        int odd = r.nextInt(40);
        if (odd == 0) {
            int[] far = {Integer.MIN_VALUE, Integer.MAX_VALUE, -1, 100, 1000, 2000000000, 2000000001, 1 << 30, -1 << 30};
            return far[r.nextInt(far.length)];
        }
        int below = odd == 1 ? 1 : 0;
        switch (kind) {
            case 't':
                return r.nextInt(among(oracle, 1) + below);
            case 'd':
                return r.nextInt(among(oracle, 0) + below);
            case 's':
                return r.nextInt(among(oracle, 2) + below);
            case 'b':
                return r.nextInt(among(oracle, 3) + below);
            case 'n':
                return r.nextInt(100 + below);
            case 'w':
                return r.nextInt(5) - (odd == 2 ? 1 : 0);
            case 'g':
                return 1 + r.nextInt(r.nextInt(3) == 0 ? 9999 : 60) - below;
            case 'k':
                return r.nextInt(10 + below);
            case 'l':
                return r.nextInt(4 + below);
            case 'i':
                return r.nextInt(3 + below);
            case 'v':
                return r.nextInt(1 << among(oracle, 2)) + below;
            case 'x':
                return r.nextInt(2000000001);
            case 'z':
                return r.nextInt(r.nextInt(4) == 0 ? 62 : 7) - below;
            default:
                return r.nextInt(8);
        }
    }

    private static int among(Oracle oracle, int what) {
        return Math.max(1, (int) oracle.answer("count", new long[] {what}));
    }

    private static int tell(Random r, YearAgo x, Oracle oracle, String text)
            throws IllegalAccessException, InvocationTargetException {
        int calls = same(x, oracle, "end", 0);
        byte[] bytes = text.getBytes(java.nio.charset.StandardCharsets.ISO_8859_1);
        for (int at = 0; at < bytes.length; at += 20) {
            calls += same(x, oracle, "feed", Check.four(bytes, at), Check.four(bytes, at + 4),
                Check.four(bytes, at + 8), Check.four(bytes, at + 12), Check.four(bytes, at + 16));
        }
        calls += same(x, oracle, "end", bytes.length);
        calls += same(x, oracle, "market");
        calls += same(x, oracle, "fault", 0);
        calls += same(x, oracle, "fault", 1);
        calls += same(x, oracle, "count", 4);
        return calls;
    }

    private static int same(YearAgo x, Oracle oracle, String call, long... args)
            throws IllegalAccessException, InvocationTargetException {
        Object[] given = new Object[args.length];
        for (int i = 0; i < args.length; i++) {
            if (call.equals("write") && i == 2) {
                given[i] = args[i];
            } else {
                given[i] = (int) args[i];
            }
        }
        long got = (Integer) CALLS.get(call).invoke(x, given);
        Check.due(call + Arrays.toString(args), got, oracle.answer(call, args));
        return 1;
    }

    // ---- texts ----

    /** All numbers near their bounds. */
    private static String edgeText(Random r) {
        int days = r.nextInt(3) == 0 ? 20 : 4 + r.nextInt(2);
        int things = 1 + r.nextInt(r.nextBoolean() ? 2 : 5);
        StringBuilder s = new StringBuilder("market days " + days + ";");
        for (int t = 0; t < things; t++) {
            s.append("thing price ").append(edge(r, 0, 99)).append(" keeps ").append(r.nextBoolean() ? edge(r, 0, 30) : edge(r, 0, days)).append(";");
        }
        for (int i = r.nextInt(6 * things); i > 0; i--) {
            s.append(r.nextInt(3) == 0 ? "old " : "was ").append(edge(r, 0, things - 1)).append(" on ").append(edge(r, 0, days - 1)).append(' ').append(edge(r, 0, 99)).append(";");
        }
        int sellers = r.nextInt(6);
        for (int i = 0; i < sellers; i++) {
            s.append("seller ").append(edge(r, 0, things - 1)).append(" has ").append(edge(r, 0, r.nextInt(3) == 0 ? 99 : 9)).append(" asks ").append(edge(r, 0, 99)).append(";");
            for (int k = r.nextInt(3); k > 0; k--) {
                s.append("grows ").append(i).append(" on ").append(edge(r, 0, days - 1)).append(' ').append(edge(r, 0, r.nextBoolean() ? 99 : 9)).append(";");
            }
        }
        for (int i = r.nextInt(8); i > 0; i--) {
            int from = edge(r, 0, days - 1);
            s.append("buyer ").append(edge(r, 0, things - 1)).append(" wants ").append(edge(r, 1, 9)).append(" pays ").append(r.nextBoolean() ? 99 : edge(r, 0, 99));
            s.append(" from ").append(from).append(" to ").append(edge(r, from, days - 1)).append(" stores ").append(edge(r, 0, r.nextBoolean() ? days : 30)).append(";");
        }
        if (r.nextBoolean()) {
            s.append("cap ").append(edge(r, 0, 99)).append(";");
        }
        return s.length() > 2000 ? s.substring(0, s.lastIndexOf(";", 1999) + 1) : s.toString();
    }

    private static int edge(Random r, int low, int high) {
        int in = Math.min(r.nextInt(3) == 0 ? 1 : 0, high - low);
        return r.nextInt(8) == 0 ? low + r.nextInt(high - low + 1) : r.nextBoolean() ? low + in : high - in;
    }

    static String text(Random r, int size) {
        if (r.nextInt(4) == 0) {
            return edgeText(r);
        }
        int days = r.nextInt(6) == 0 ? 20 : 4 + r.nextInt(size == 3 ? 17 : 5);
        int things = size == 0 ? 1 : 1 + r.nextInt(5);
        int sellers = size == 0 ? 1 : r.nextInt(6);
        int buyers = size == 0 ? 2 : r.nextInt(8);
        StringBuilder s = new StringBuilder("market days " + days + ";");
        int most = r.nextBoolean() ? 100 : 6;
        for (int t = 0; t < things; t++) {
            s.append("thing price ").append(r.nextInt(most)).append(" keeps ").append(r.nextInt(r.nextInt(5) == 0 ? 31 : 4)).append(";\n");
        }
        for (int i = r.nextInt(4 * things * (size + 1)); i > 0; i--) {
            s.append(r.nextInt(3) == 0 ? "old " : "was ").append(r.nextInt(things)).append(" on ").append(r.nextInt(days)).append(' ').append(r.nextInt(most)).append(";");
        }
        for (int i = 0; i < sellers; i++) {
            s.append("seller ").append(r.nextInt(things)).append(" has ").append(r.nextInt(r.nextInt(6) == 0 ? 100 : 8)).append(" asks ").append(r.nextInt(3) == 0 ? r.nextInt(most) : 0).append(";");
        }
        for (int i = sellers == 0 ? 0 : r.nextInt(4 * sellers); i > 0; i--) {
            s.append("grows ").append(r.nextInt(sellers)).append(" on ").append(r.nextInt(days)).append(' ').append(r.nextInt(9)).append(";");
        }
        for (int i = 0; i < buyers; i++) {
            int from = r.nextInt(days);
            int to = from + r.nextInt(days - from);
            s.append("buyer ").append(r.nextInt(things)).append(" wants ").append(1 + r.nextInt(r.nextInt(4) == 0 ? 9 : 3)).append(" pays ").append(r.nextInt(4) == 0 ? 99 : r.nextInt(most));
            s.append(" from ").append(from).append(" to ").append(to).append(" stores ").append(r.nextInt(r.nextInt(4) == 0 ? 31 : 4)).append(" ; ");
        }
        if (r.nextBoolean()) {
            s.append("cap ").append(r.nextInt(30)).append(";");
        }
        return s.length() > 2000 ? s.substring(0, s.lastIndexOf(";", 1999) + 1) : s.toString();
    }

    /** A text with some bytes or words other than they were. */
    static String spoil(Random r, String text) {
        StringBuilder s = new StringBuilder(text);
        String[] words = {"market", "thing", "days", ";", " ", "5", "100", "999999999999999999999", "x", "A", "\t", "\u00e9",
            "cap 3;", "thing price 1 keeps 1;", "seller 0 has 1 asks 1;", "was", "0", "31", "on", "00007", "\n"};
        for (int i = 1 + r.nextInt(2); i > 0 && s.length() > 0; i--) {
            int at = r.nextInt(s.length());
            switch (r.nextInt(4)) {
                case 0:
                    s.deleteCharAt(at);
                    break;
                case 1:
                    s.insert(at, words[r.nextInt(words.length)]);
                    break;
                case 2:
                    s.setCharAt(at, (char) r.nextInt(256));
                    break;
                default:
                    s.setLength(at);
                    break;
            }
        }
        if (r.nextInt(4) == 0) {
            for (int i = 0; i < 6; i++) {
                s.append("thing price 1 keeps 1;");
            }
        }
        return s.length() > 2000 ? s.substring(0, 2000) : s.toString();
    }
}
