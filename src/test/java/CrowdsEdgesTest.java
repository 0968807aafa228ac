import java.util.Arrays;

/** The edges that promises 30 to 33 and 51 to 53 and the SLOTS of 'Terms' I name. */
public final class CrowdsEdgesTest {
    /** Two come to thing 0 for up to 15, one for up to 20 on DAY 1; nobody comes to thing 1. */
    private static final String TWO = "market days 5;thing price 10 keeps 1;thing price 99 keeps 1;"
        + "buyer 0 wants 2 pays 15 from 0 to 1 stores 0;buyer 0 wants 2 pays 20 from 1 to 3 stores 1;buyer 1 wants 1 pays 98 from 4 to 4 stores 0;";
    private static final int[] FAR = {-1, Integer.MIN_VALUE, Integer.MAX_VALUE};

    private CrowdsEdgesTest() {
    }

    public static void main(String[] args) {
        comeEdges();
        agreeEdges();
        agreeFullRow();
        agreeRefused();
        toldEdges();
        whatIsAskedLast();
        oddEdges();
        marketsOfNothing();
        rowEdges();
        rowRefused();
        rowAnew();
        writeEdges();
        writeCuts();
        pasteEdges();
        pasteAsTheyWere();
        pasteRefused();
        pasteOfWidths();
        slotsAndMarkets();
        Check.finish();
    }

    private static void put(YearAgo x, int slot, int width, long... numbers) {
        Check.due("row", x.row(slot, width, numbers.length), 0);
        for (int i = 0; i < numbers.length; i++) {
            Check.due("write", x.write(slot, i, numbers[i]), 0);
        }
    }

    // ---- CROWDS ----

    private static void comeEdges() {
        Check.promise("promise 30: n 0 .. 99");
        YearAgo x = Check.market("market days 4;thing price 50 keeps 0;" + "buyer 0 wants 9 pays 0 from 1 to 2 stores 0;"
            + "buyer 0 wants 9 pays 99 from 1 to 1 stores 0;" + "buyer 0 wants 9 pays 98 from 2 to 2 stores 0;".repeat(5));
        int[][] due = {{0, 0, 0}, {1, 0, 2}, {1, 1, 1}, {1, 99, 1}, {2, 0, 6}, {2, 1, 5}, {2, 98, 5}, {2, 99, 0}, {3, 0, 0}};
        for (int[] at : due) {
            Check.due("come(0, " + at[0] + ", " + at[1] + ")", x.come(0, at[0], at[1]), at[2]);
        }
        Check.edges("come n", 0, 99, -2, n -> x.come(0, 1, n));
        Check.edges("come day", 0, 3, -2, n -> x.come(0, n, 50));
        Check.edges("come thing", 0, 0, -2, n -> x.come(n, 1, 50));
    }

    private static void tell(YearAgo x, int slot, int thing, int day, int many, int least, int greatest) {
        Check.due("agree", x.agree(slot, thing, day), many);
        Check.due("told, the least", x.told(slot, thing, day, 0), least);
        Check.due("told, the greatest", x.told(slot, thing, day, 1), greatest);
    }

    private static void agreeEdges() {
        Check.promise("promises 31 and 32: PRICES 0 .. 99");
        YearAgo x = Check.market(TWO);
        int[][] due = {{0, 0, 84, 16, 99}, {0, 1, 16, 0, 15}, {0, 2, 0, -1, -1}, {1, 0, 79, 21, 99}, {1, 1, 5, 16, 20}, {1, 2, 16, 0, 15},
            {1, 3, 0, -1, -1}, {2, 1, 21, 0, 20}, {4, 0, 100, 0, 99}, {4, 1, 0, -1, -1}, {4, -1, 0, -1, -1}};
        for (int[] at : due) {
            put(x, 0, 3, 0, at[0], at[1]);
            tell(x, 0, 0, at[0], at[2], at[3], at[4]);
        }
        // By 98 alone he comes, by 99 alone nobody does.
        put(x, 1, 0, 1, 4, 1);
        tell(x, 1, 1, 4, 99, 0, 98);
        put(x, 2, 0, 1, 4, 0);
        tell(x, 2, 1, 4, 1, 99, 99);
        // About another DAY, another THING, they say nothing.
        tell(x, 1, 1, 3, 100, 0, 99);
        tell(x, 1, 0, 4, 100, 0, 99);
    }

    private static void agreeFullRow() {
        Check.promise("promise 31: a row of none, and of 60 numbers");
        YearAgo x = Check.market(TWO);
        x.row(0, 0, 0);
        tell(x, 0, 0, 1, 100, 0, 99);
        Check.due("odd of none", x.odd(0), -1);
        long[] full = new long[60];
        for (int i = 0; i < 60; i += 3) {
            full[i + 1] = 1;
            full[i + 2] = 1;
        }
        put(x, 1, 0, full);
        tell(x, 1, 0, 1, 5, 16, 20);
        Check.due("odd of sixty", x.odd(1), 0);
        x.write(1, 59, 2);
        tell(x, 1, 0, 1, 0, -1, -1);
        x.write(1, 58, 0);
        tell(x, 1, 0, 0, 0, -1, -1);
        tell(x, 1, 0, 1, 5, 16, 20);
        x.write(1, 58, 4);
        tell(x, 1, 0, 1, 5, 16, 20);
        x.write(1, 58, 5);
        tell(x, 1, 0, 1, -2, -2, -2);
    }

    private static void agreeRefused() {
        Check.promise("promises 31 to 33: no THING, no DAY, not three each");
        YearAgo x = Check.market(TWO);
        for (int n = 0; n <= 60; n++) {
            x.row(0, n % 4, n);
            boolean three = n % 3 == 0;
            Check.due("agree of " + n + " numbers", x.agree(0, 0, 4), three ? 100 : -2);
            Check.due("told of " + n + " numbers", x.told(0, 0, 4, 0), three ? 0 : -2);
            Check.due("odd of " + n + " numbers", x.odd(0), three && n == 0 ? -1 : three ? 0 : -2);
        }
        long[][] bad = {{2, 0, 0}, {-1, 0, 0}, {0, 5, 0}, {0, -1, 0}, {127, 0, 0}, {-128, 0, 0}, {0, 127, 0}, {0, -128, 0}};
        long[][] good = {{1, 0, 0}, {0, 4, 0}, {0, 0, 127}, {0, 0, -128}};
        for (int width = 0; width < 4; width++) {
            for (long[] row : bad) {
                put(x, 1, width, row);
                tell(x, 1, 1, 1, -2, -2, -2);
                Check.due("odd of " + Arrays.toString(row), x.odd(1), -2);
                long[] behind = {0, 0, 1, row[0], row[1], row[2]};
                put(x, 2, width, behind);
                tell(x, 2, 1, 1, -2, -2, -2);
                Check.due("odd of " + Arrays.toString(behind), x.odd(2), -2);
            }
            for (long[] row : good) {
                put(x, 1, width, row);
                tell(x, 1, 1, 1, 100, 0, 99);
                Check.due("odd is not refused", x.odd(1) == -2 ? 1 : 0, 0);
            }
        }
        // What more than an int holds is no THING and no DAY, and no number of BUYERS.
        for (long more : new long[] {1L << 32, 1L << 33, Long.MIN_VALUE, -1L << 32}) {
            put(x, 3, 3, more, 0, 0);
            Check.due("thing " + more, x.agree(3, 0, 0), -2);
            put(x, 3, 3, 0, more, 0);
            Check.due("day " + more, x.agree(3, 0, 0), -2);
            put(x, 3, 3, 0, 0, more + 1);
            Check.due("how many came: " + (more + 1), x.agree(3, 0, 0), 0);
            Check.due("odd: " + (more + 1), x.odd(3), 0);
        }
    }

    private static void toldEdges() {
        Check.promise("promise 32: what 0, 1; the SLOT, THING, DAY asked");
        YearAgo x = Check.market(TWO);
        put(x, 3, 0, 0, 1, 1);
        Check.edges("told what", 0, 1, -2, n -> x.told(3, 0, 1, n));
        Check.edges("told thing", 0, 1, -2, n -> x.told(3, n, 1, 0));
        Check.edges("told day", 0, 4, -2, n -> x.told(3, 0, n, 0));
        Check.edges("agree thing", 0, 1, -2, n -> x.agree(3, n, 1));
        Check.edges("agree day", 0, 4, -2, n -> x.agree(3, 0, n));
        for (int slot = 0; slot < 3; slot++) {
            Check.due("agree of a SLOT of nothing", x.agree(slot, 0, 1), -6);
            Check.due("told of a SLOT of nothing", x.told(slot, 0, 1, 1), -6);
            Check.due("odd of a SLOT of nothing", x.odd(slot), -6);
        }
        for (int slot : new int[] {-1, 4, Integer.MIN_VALUE, Integer.MAX_VALUE}) {
            Check.due("agree of SLOT " + slot, x.agree(slot, 0, 1), -2);
            Check.due("told of SLOT " + slot, x.told(slot, 0, 1, 1), -2);
            Check.due("odd of SLOT " + slot, x.odd(slot), -2);
        }
    }

    private static void whatIsAskedLast() {
        Check.promise("promise 31: no such SLOT, THING, DAY; it has nothing; a number is no THING, no DAY (asked last)");
        YearAgo x = Check.market(TWO);
        for (int far : new int[] {-1, 2, Integer.MAX_VALUE}) {
            Check.due("no THING ahead of nothing", x.agree(0, far, 0), -2);
            Check.due("told likewise", x.told(0, far, 0, 0), -2);
        }
        for (int far : new int[] {-1, 5, Integer.MIN_VALUE}) {
            Check.due("no DAY ahead of nothing", x.agree(0, 0, far), -2);
            Check.due("told likewise", x.told(0, 0, far, 0), -2);
        }
        Check.due("it has nothing", x.agree(0, 0, 0), -6);
    }

    private static void oddEdges() {
        Check.promise("promise 33: the first CROWD (from 0); NONE: all are");
        YearAgo x = Check.market(TWO);
        long[] full = new long[60];
        for (int i = 0; i < 60; i += 3) {
            full[i] = 0;
            full[i + 1] = 1;
            full[i + 2] = 2;
        }
        put(x, 0, 1, full);
        Check.due("all are so", x.odd(0), -1);
        for (int crowd = 19; crowd >= 0; crowd--) {
            x.write(0, 3 * crowd + 2, crowd % 2 == 0 ? 1 : 3);
            Check.due("from crowd " + crowd + " on", x.odd(0), crowd);
        }
        // Nobody comes to thing 1 by 99; by PRICES as they are.
        put(x, 1, 0, 1, 4, 0);
        Check.due("by 99", x.odd(1), -1);
        x.mark(1, 4, 98);
        Check.due("MARKED alone", x.odd(1), -1);
        x.turn();
        Check.due("by 98", x.odd(1), 0);
        x.write(1, 2, 1);
        Check.due("one came", x.odd(1), -1);
    }

    private static void marketsOfNothing() {
        Check.promise("promises 31 to 33: without a MARKET, without THINGS");
        YearAgo none = new YearAgo();
        YearAgo head = Check.market("market days 4;");
        for (YearAgo x : new YearAgo[] {none, head}) {
            for (int n = 0; n < 4; n++) {
                if (n > 0) {
                    x.row(0, 0, n - 1);
                }
                Check.due("agree", x.agree(0, 0, 0), -2);
                Check.due("told", x.told(0, 0, 0, 0), -2);
            }
            x.row(0, 0, 3);
            Check.due("a number is no THING", x.odd(0), -2);
        }
        Check.due("odd of nothing without a MARKET", none.odd(1), -2);
        Check.due("odd of nothing", head.odd(1), -6);
    }

    // ---- SLOTS ----

    private static void rowEdges() {
        Check.promise("promise 51: SLOTS 0 .. 3, WIDTHS 0 .. 3, n up to 60");
        YearAgo x = new YearAgo();
        for (int slot = 0; slot < 4; slot++) {
            for (int width = 0; width < 4; width++) {
                for (int n : new int[] {0, 1, 59, 60}) {
                    Check.due("row(" + slot + ", " + width + ", " + n + ")", x.row(slot, width, n), 0);
                    Check.due("the last number", x.write(slot, n - 1, 1), n == 0 ? -7 : 0);
                    Check.due("the one behind it", x.write(slot, n, 1), -7);
                }
            }
            Check.due("rows", x.count(8), slot + 1);
        }
        for (int slot = 0; slot < 4; slot++) {
            int s = slot;
            Check.edges("row width", 0, 3, -2, n -> x.row(s, n, 5));
        }
        Check.edges("row slot", 0, 3, -2, n -> x.row(n, 0, 5));
    }

    private static void rowRefused() {
        Check.promise("promise 51: -2, -3, and the SLOT stays");
        YearAgo x = Check.market(TWO);
        for (int n : FAR) {
            Check.due("row(" + n + ", 0, 3)", x.row(n, 0, 3), -2);
            Check.due("row(0, " + n + ", 3)", x.row(0, n, 3), -2);
            Check.due("row(0, 0, " + n + ")", x.row(0, 0, n), n < 0 ? -3 : -2);
            Check.due("nor a SLOT nor how many", x.row(4, 0, n), -2);
            Check.due("nor a WIDTH nor how many", x.row(0, 4, n), -2);
        }
        Check.due("row(0, 0, 61)", x.row(0, 0, 61), -2);
        Check.due("row(4, 0, 3)", x.row(4, 0, 3), -2);
        Check.due("row(0, 4, 3)", x.row(0, 4, 3), -2);
        Check.due("no SLOT has a row", x.count(8), 0);
        Check.due("write", x.write(0, 0, 0), -6);
        put(x, 0, 1, 0, 1, 1);
        Check.due("row(0, 0, -1)", x.row(0, 0, -1), -3);
        Check.due("row(0, 2, MIN)", x.row(0, 2, Integer.MIN_VALUE), -3);
        Check.due("row(0, 2, 61)", x.row(0, 2, 61), -2);
        Check.due("row(0, 4, 6)", x.row(0, 4, 6), -2);
        Check.due("row(0, -1, 6)", x.row(0, -1, 6), -2);
        Check.due("the row stays", x.agree(0, 0, 1), 5);
        x.row(1, 1, 3);
        Check.due("and its WIDTH", x.paste(0, 0, 1, 0, 3), 0);
        Check.due("and how many", x.write(0, 3, 0), -7);
    }

    private static void rowAnew() {
        Check.promise("promise 51: all 0 (in place of another one)");
        YearAgo x = Check.market(TWO);
        long[] full = new long[60];
        Arrays.fill(full, 9);
        put(x, 0, 3, full);
        Check.due("no THING 9", x.agree(0, 0, 0), -2);
        Check.due("row(0, 0, 60)", x.row(0, 0, 60), 0);
        Check.due("nobody came to thing 0 on DAY 0", x.agree(0, 0, 0), 84);
        Check.due("odd", x.odd(0), 0);
        put(x, 0, 3, full);
        x.row(0, 3, 3);
        x.row(0, 3, 60);
        Check.due("all 0 also behind a short one", x.agree(0, 0, 0), 84);
        x.row(1, 2, 3);
        Check.due("another SLOT's WIDTH", x.paste(0, 0, 1, 0, 1), -8);
        x.row(0, 2, 3);
        Check.due("the new WIDTH", x.paste(0, 0, 1, 0, 1), 0);
    }

    private static void writeEdges() {
        Check.promise("promise 52: -2, -6, -7, and nothing is written");
        YearAgo x = Check.market(TWO);
        for (int slot : new int[] {-1, 4, Integer.MIN_VALUE, Integer.MAX_VALUE}) {
            Check.due("write(" + slot + ", 0, 1)", x.write(slot, 0, 1), -2);
        }
        for (int slot = 0; slot < 4; slot++) {
            for (int i : new int[] {-1, 0, 60}) {
                Check.due("write(" + slot + ", " + i + ", 1)", x.write(slot, i, 1), -6);
            }
        }
        put(x, 0, 0, 0, 1, 1);
        for (int i : new int[] {-1, 3, 4, 59, 60, Integer.MIN_VALUE, Integer.MAX_VALUE}) {
            Check.due("write(0, " + i + ", 9)", x.write(0, i, 9), -7);
        }
        Check.due("the row stays", x.agree(0, 0, 1), 5);
        x.row(3, 3, 60);
        Check.edges("write i", 0, 59, -7, i -> x.write(3, i, 1));
        Check.due("what was written beyond a row is not there", x.row(0, 0, 6), 0);
        Check.due("all 0", x.agree(0, 0, 0), 84);
    }

    private static void writeCuts() {
        Check.promise("promise 52: cut to its WIDTH, 1, 2, 4 or 8 bytes");
        YearAgo x = Check.market(TWO);
        for (int width = 0; width < 4; width++) {
            int bits = 8 << width;
            for (int bit = 3; bit < 64; bit++) {
                // A higher bit is cut away, a lower one is not: then nobody's number is so, or no DAY.
                long more = 1L << bit;
                put(x, 0, width, 0, 1, more + 1);
                Check.due("2^" + bit + " + 1 in " + bits + " bits", x.agree(0, 0, 1), bit >= bits ? 5 : 0);
                put(x, 1, width, more, more + 1, 1 - more);
                Check.due("2^" + bit + " in " + bits + " bits", x.agree(1, 0, 1), bit >= bits ? 5 : -2);
            }
            put(x, 2, width, 0, 1, -1);
            Check.due("-1 in " + bits + " bits", x.agree(2, 0, 1), 0);
            put(x, 2, width, 0, -1, 0);
            Check.due("day -1 in " + bits + " bits", x.agree(2, 0, 1), -2);
        }
    }

    private static void pasteEdges() {
        Check.promise("promise 53: beyond their rows, also where n is 0");
        YearAgo x = Check.market(TWO);
        int[] sizes = {0, 1, 3, 60};
        for (int from : sizes) {
            for (int to : sizes) {
                x.row(0, 0, from);
                x.row(1, 0, to);
                for (int i : new int[] {-1, 0, 1, from - 1, from, from + 1}) {
                    for (int n : new int[] {-1, 0, 1, from - i, from - i + 1}) {
                        boolean good = i >= 0 && n >= 0 && i + n <= from && n <= to;
                        Check.due("paste(0, " + i + ", 1, 0, " + n + ") of " + from + " to " + to, x.paste(0, i, 1, 0, n), good ? 0 : -7);
                    }
                }
                for (int k : new int[] {-1, 0, 1, to - 1, to, to + 1}) {
                    for (int n : new int[] {-1, 0, 1, to - k, to - k + 1}) {
                        boolean good = k >= 0 && n >= 0 && k + n <= to && n <= from;
                        Check.due("paste(0, 0, 1, " + k + ", " + n + ") of " + from + " to " + to, x.paste(0, 0, 1, k, n), good ? 0 : -7);
                    }
                }
            }
        }
        int max = Integer.MAX_VALUE;
        int min = Integer.MIN_VALUE;
        int[][] far = {{max, 0, 0}, {0, max, 0}, {0, 0, max}, {max, 0, max}, {0, max, max}, {max, max, max}, {1, 1, max}, {max, 0, 1}, {0, max, 1},
            {min, 0, 0}, {0, min, 0}, {0, 0, min}, {min, 0, min}, {1, 1, min}, {-1, 0, 1}, {0, -1, 1}, {-1, -1, 2}, {max, max, 2}, {-1, 0, 0}, {0, -1, 0}};
        x.row(0, 0, 60);
        x.row(1, 0, 60);
        for (int[] at : far) {
            Check.due("paste" + Arrays.toString(at), x.paste(0, at[0], 1, at[1], at[2]), -7);
            Check.due("paste to its own" + Arrays.toString(at), x.paste(0, at[0], 0, at[1], at[2]), -7);
        }
    }

    private static void pasteAsTheyWere() {
        Check.promise("promise 53: to another one's or its own, as they were");
        // Crowds of the row: thing 0, DAY i, i came; moved by whole crowds within one row, both ways.
        for (int shift = -2; shift <= 2; shift++) {
            YearAgo x = Check.market(TWO);
            put(x, 0, 2, 0, 0, 1, 0, 1, 2, 0, 2, 1, 0, 3, 1, 0, 4, 0);
            Check.due("all are so", x.odd(0), -1);
            int n = 3 * (5 - Math.abs(shift));
            int i = shift < 0 ? -3 * shift : 0;
            int k = shift > 0 ? 3 * shift : 0;
            Check.due("paste(0, " + i + ", 0, " + k + ", " + n + ")", x.paste(0, i, 0, k, n), 0);
            Check.due("all are so still", x.odd(0), -1);
            int[] was = {1, 2, 1, 1, 0};
            for (int day = 0; day < 5; day++) {
                // A DAY is told of if its crowd was moved, or stood where none was put.
                boolean moved = day + shift >= 0 && day + shift < 5;
                boolean stood = shift > 0 ? day < shift : day >= 5 + shift;
                int found = x.agree(0, 0, day);
                Check.due("DAY " + day + " moved by " + shift, found, moved || stood ? agreeing(day, was[day]) : 100);
            }
        }
        YearAgo x = Check.market(TWO);
        put(x, 0, 0, 0, 1, 1);
        put(x, 1, 0, 0, 0, 0, 0, 0, 0);
        Check.due("to the end of another one's", x.paste(0, 0, 1, 3, 3), 0);
        Check.due("there it is", x.agree(1, 0, 1), 5);
        Check.due("and here", x.agree(0, 0, 1), 5);
        x.write(0, 2, 2);
        Check.due("a copy", x.agree(1, 0, 1), 5);
        Check.due("the last alone", x.paste(0, 2, 1, 5, 1), 0);
        Check.due("is there", x.agree(1, 0, 1), 16);
        Check.due("the first ones stay", x.agree(1, 0, 0), 84);
        Check.due("none at all", x.paste(1, 6, 0, 3, 0), 0);
        Check.due("nothing has come", x.agree(0, 0, 1), 16);
    }

    private static int agreeing(int day, int came) {
        int[][] prices = {{84, 16, 0}, {79, 5, 16}, {79, 21, 0}, {79, 21, 0}, {100, 0, 0}};
        return prices[day][came];
    }

    private static void pasteRefused() {
        Check.promise("promise 53: -2, -6, -8, -7, and nothing happens");
        YearAgo x = Check.market(TWO);
        for (int slot : new int[] {-1, 4, Integer.MIN_VALUE, Integer.MAX_VALUE}) {
            Check.due("paste(" + slot + ", 0, 0, 0, 0)", x.paste(slot, 0, 0, 0, 0), -2);
            Check.due("paste(0, 0, " + slot + ", 0, 0)", x.paste(0, 0, slot, 0, 0), -2);
        }
        Check.due("both have nothing", x.paste(0, 0, 1, 0, 0), -6);
        put(x, 0, 0, 0, 1, 1);
        Check.due("the other has nothing", x.paste(0, -1, 3, 0, 99), -6);
        Check.due("the one has nothing", x.paste(3, -1, 0, 0, 99), -6);
        put(x, 1, 0, 0, 1, 2);
        Check.due("beyond the one", x.paste(1, 1, 0, 0, 3), -7);
        Check.due("beyond the other", x.paste(1, 0, 0, 1, 3), -7);
        Check.due("n below 0", x.paste(1, 0, 0, 0, -1), -7);
        Check.due("a place below 0", x.paste(1, -1, 0, 0, 3), -7);
        Check.due("the other's place below 0", x.paste(1, 0, 0, -1, 3), -7);
        put(x, 2, 1, 0, 1, 2);
        Check.due("of another WIDTH", x.paste(2, 0, 0, 0, 3), -8);
        Check.due("nothing happens", x.agree(0, 0, 1), 5);
        Check.due("nor there", x.agree(1, 0, 1), 16);
        Check.due("write beyond it still", x.write(0, 3, 0), -7);
    }

    private static void pasteOfWidths() {
        Check.promise("promise 53: not of one WIDTH, also ahead of what is beyond");
        for (int one = 0; one < 4; one++) {
            for (int other = 0; other < 4; other++) {
                YearAgo x = new YearAgo();
                x.row(0, one, 6);
                x.row(1, other, 3);
                Check.due("of " + one + " and " + other, x.paste(0, 0, 1, 0, 3), one == other ? 0 : -8);
                Check.due("none of " + one + " and " + other, x.paste(0, 0, 1, 0, 0), one == other ? 0 : -8);
                Check.due("beyond, of " + one + " and " + other, x.paste(0, 0, 1, 0, 4), one == other ? -7 : -8);
                Check.due("below, of " + one + " and " + other, x.paste(0, -1, 1, 0, 1), one == other ? -7 : -8);
            }
        }
    }

    private static void slotsAndMarkets() {
        Check.promise("SLOTS stay when the MARKET is another");
        YearAgo x = Check.market(TWO);
        put(x, 0, 0, 1, 4, 1);
        Check.due("thing 1 on DAY 4", x.agree(0, 1, 4), 99);
        Check.tell(x, "market days 4;thing price 10 keeps 1;thing price 10 keeps 1;");
        Check.due("DAY 4 is no DAY now", x.agree(0, 1, 3), -2);
        Check.due("nor for odd", x.odd(0), -2);
        Check.tell(x, "market days 5;thing price 10 keeps 1;");
        Check.due("thing 1 is no THING now", x.agree(0, 0, 4), -2);
        Check.tell(x, TWO);
        Check.due("as it was", x.agree(0, 1, 4), 99);
        x.row(1, 0, 3);
        x.market();
        Check.due("rows without a MARKET", x.count(8), 2);
        Check.due("write without a MARKET", x.write(0, 2, 1), 0);
        Check.due("paste without a MARKET", x.paste(0, 0, 1, 0, 3), 0);
    }
}
