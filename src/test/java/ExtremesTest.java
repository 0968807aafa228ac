import java.lang.management.ManagementFactory;
import java.lang.reflect.InvocationTargetException;
import java.lang.reflect.Method;
import java.util.Random;

/** No call throws, whatever its numbers and the text are; and the calls leave next to nothing behind. */
public final class ExtremesTest {
    private static final int[] NUMBERS = {
        Integer.MIN_VALUE, Integer.MIN_VALUE + 1, -1000000, -21, -2, -1, 0, 1, 2, 3, 4, 5, 6, 7, 9, 19, 20, 21, 30, 31,
        59, 60, 61, 98, 99, 100, 9999, 65536, 2000000000, 2000000001, Integer.MAX_VALUE - 1, Integer.MAX_VALUE
    };

    private ExtremesTest() {
    }

    public static void main(String[] args) throws IllegalAccessException {
        everyNumber(new YearAgo());
        everyNumber(Check.market("market days 4;"));
        everyNumber(Check.market(YearTest.FAIR));
        everyNumber(Check.market(greatest()));
        anyText();
        room();
        Check.finish();
    }

    /** All that a market can hold. */
    static String greatest() {
        StringBuilder s = new StringBuilder("market days 20;");
        for (int i = 0; i < 5; i++) {
            s.append("thing price ").append(95 - 20 * i).append(" keeps 30;seller ").append(i == 3 ? 0 : i).append(" has 99 asks 0;");
        }
        for (int i = 0; i < 7; i++) {
            s.append("buyer ").append(i < 5 ? 0 : i - 4).append(" wants 9 pays ").append(99 - 9 * i).append(" from 0 to 19 stores 30;");
        }
        for (int day = 0; day < 20; day++) {
            s.append("was 0 on ").append(day).append(' ').append(day * 37 % 100).append(";grows 0 on ").append(day).append(" 99;");
        }
        return s.toString();
    }

    private static void everyNumber(YearAgo x) throws IllegalAccessException {
        Check.promise("no call throws");
        Random r = new Random(7);
        for (Method m : YearAgo.class.getDeclaredMethods()) {
            String name = m.getName();
            if (!java.lang.reflect.Modifier.isPublic(m.getModifiers()) || name.equals("market") || name.equals("restore")) {
                continue;
            }
            int many = name.equals("most") || name.equals("least") || name.equals("years") ? 400 : 1500;
            for (int i = 0; i < many; i++) {
                call(x, m, r);
            }
        }
    }

    private static void call(YearAgo x, Method m, Random r) throws IllegalAccessException {
        Object[] given = new Object[m.getParameterCount()];
        for (int k = 0; k < given.length; k++) {
            int n = r.nextInt(3) == 0 ? r.nextInt(6) : NUMBERS[r.nextInt(NUMBERS.length)];
            if (m.getParameterTypes()[k] == long.class) {
                given[k] = r.nextBoolean() ? (long) n : r.nextLong();
            } else {
                given[k] = n;
            }
        }
        try {
            m.invoke(x, given);
        } catch (InvocationTargetException e) {
            Check.due(m.getName() + java.util.Arrays.toString(given) + " threw " + e.getCause(), 1, 0);
        }
    }

    private static void anyText() {
        Check.promise("any text is read");
        Random r = new Random(11);
        String[] words = {"market", "days", "thing", "price", "keeps", "was", "old", "on", "seller", "has", "asks", "grows",
            "buyer", "wants", "pays", "from", "to", "stores", "cap", ";", "0", "1", "5", "20", "99", "100", "99999999999", " ", "A", "\u00ff"};
        for (int run = 0; run < 3000; run++) {
            StringBuilder s = new StringBuilder(r.nextBoolean() ? "market days 5;" : "");
            int length = r.nextInt(r.nextInt(10) == 0 ? 400 : 12);
            for (int i = 0; i < length; i++) {
                s.append(words[r.nextInt(words.length)]).append(r.nextInt(5) == 0 ? "" : " ");
            }
            s.setLength(Math.min(2000, s.length()));
            YearAgo x = new YearAgo();
            int lines = Check.tell(x, s.toString());
            boolean good = lines >= 0 && x.fault(0) == 0 && x.fault(1) == -1;
            boolean bad = lines == -4 && x.fault(0) >= 1 && x.fault(0) <= 3 && x.fault(1) >= 0 && x.fault(1) <= s.length();
            Check.due("fault and place of '" + s + "'", good || bad ? 1 : 0, 1);
        }
        YearAgo full = new YearAgo();
        Check.due("2,000 bytes", Check.tell(full, "market days 5;" + "cap 1;".repeat(331)), 332);
        Check.due("the end of 2,000 bytes", Check.tell(full, "market days 5;" + "cap 1;".repeat(330) + "cap 77"), -4);
        Check.due("its place", full.fault(1), 2000);
    }

    /** The dearest run stays far below a room of 600,000 objects and 7.3 million elements. */
    private static void room() {
        Check.promise("the room");
        com.sun.management.ThreadMXBean threads = (com.sun.management.ThreadMXBean) ManagementFactory.getThreadMXBean();
        long me = Thread.currentThread().getId();
        String text = greatest();
        YearAgo x = Check.market(text);
        long before = threads.getThreadAllocatedBytes(me);
        YearAgo other = new YearAgo();
        long made = threads.getThreadAllocatedBytes(me) - before;
        Check.due("an object of more than 100,000 bytes: " + made, made > 100000 ? 1 : 0, 0);
        before = threads.getThreadAllocatedBytes(me);
        int sum = 0;
        for (int i = 0; i < 40; i++) {
            x.mark(0, 1, i);
            sum += x.most(0) + x.asks(0) + x.years(i, 20, 0) + x.poor(1) + x.least(0, 1, 9999) + x.chance(0, 0, 0);
            sum += x.row(i % 4, 3, 60) + x.image(i % 3) + x.restore(i % 3) + x.enough(0) + x.thursday(0) + x.crowd(0);
        }
        long used = threads.getThreadAllocatedBytes(me) - before;
        Check.due("480 calls that make more than 100,000 bytes: " + used, used > 100000 ? 1 : 0, 0);
        Check.due("the other one is empty", other.count(0), 0);
        Check.due("what they answered", sum != 0 ? 1 : 0, 1);
    }
}
