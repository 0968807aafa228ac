/** Promises 30 to 33 and 51 to 53: crowds that tell prices, and the slots that hold them. */
public final class CrowdsTest {
    private CrowdsTest() {
    }

    public static void main(String[] args) {
        come();
        agree();
        refusals();
        odd();
        rows();
        widths();
        paste();
        pasteWidths();
        Check.finish();
    }

    private static void put(YearAgo x, int slot, int width, long... numbers) {
        x.row(slot, width, numbers.length);
        for (int i = 0; i < numbers.length; i++) {
            Check.due("write", x.write(slot, i, numbers[i]), 0);
        }
    }

    private static void come() {
        Check.promise("promise 30");
        YearAgo x = Check.market(YearTest.FAIR);
        int[][] due = {{0, 0, 1}, {0, 15, 1}, {0, 16, 0}, {1, 0, 2}, {1, 15, 2}, {1, 16, 1}, {1, 20, 1}, {1, 21, 0}, {4, 0, 0}, {3, 99, 0}};
        for (int[] at : due) {
            Check.due("come(0, " + at[0] + ", " + at[1] + ")", x.come(0, at[0], at[1]), at[2]);
        }
        Check.due("come(0, 0, 100)", x.come(0, 0, 100), -2);
        Check.due("come(0, 0, -1)", x.come(0, 0, -1), -2);
        Check.due("come(0, 5, 0)", x.come(0, 5, 0), -2);
        Check.due("come(1, 0, 0)", x.come(1, 0, 0), -2);
    }

    private static void agree() {
        Check.promise("promises 31 and 32");
        YearAgo x = Check.market(YearTest.FAIR);
        crowd(x, new long[] {0, 1, 1}, 1, 5, 16, 20);
        crowd(x, new long[] {0, 1, 2}, 1, 16, 0, 15);
        crowd(x, new long[] {0, 1, 0}, 1, 79, 21, 99);
        crowd(x, new long[] {0, 1, 3}, 1, 0, -1, -1);
        crowd(x, new long[] {0, 1, 1}, 2, 100, 0, 99);
        crowd(x, new long[] {}, 1, 100, 0, 99);
        crowd(x, new long[] {0, 1, 1, 0, 2, 9, 0, 1, 1}, 1, 5, 16, 20);
        crowd(x, new long[] {0, 1, 1, 0, 1, 2}, 1, 0, -1, -1);
        crowd(x, new long[] {0, 1, -1}, 1, 0, -1, -1);
        YearAgo y = Check.market("market days 4;thing price 5 keeps 0;buyer 0 wants 1 pays 98 from 1 to 1 stores 0;"
            + "buyer 0 wants 1 pays 0 from 2 to 2 stores 0;");
        crowd(y, new long[] {0, 1, 0}, 1, 1, 99, 99);
        crowd(y, new long[] {0, 2, 1}, 2, 1, 0, 0);
        crowd(y, new long[] {0, 1, 1}, 1, 99, 0, 98);
    }

    private static void crowd(YearAgo x, long[] row, int day, int many, int least, int greatest) {
        for (int width = 0; width < 4; width++) {
            put(x, width, width, row);
            Check.due("agree", x.agree(width, 0, day), many);
            Check.due("told least", x.told(width, 0, day, 0), least);
            Check.due("told greatest", x.told(width, 0, day, 1), greatest);
        }
    }

    private static void refusals() {
        Check.promise("promises 31 and 32, refusals");
        YearAgo x = Check.market(YearTest.FAIR);
        Check.due("a slot has nothing", x.agree(0, 0, 0), -6);
        Check.due("told likewise", x.told(0, 0, 0, 0), -6);
        Check.due("no such thing first", x.agree(0, 1, 0), -2);
        Check.due("no such day first", x.agree(0, 0, 5), -2);
        put(x, 0, 0, 0, 1, 1);
        Check.due("agree(-1, 0, 0)", x.agree(-1, 0, 0), -2);
        Check.due("agree(4, 0, 0)", x.agree(4, 0, 0), -2);
        Check.due("agree(0, 1, 0)", x.agree(0, 1, 0), -2);
        Check.due("agree(0, 0, -1)", x.agree(0, 0, -1), -2);
        Check.due("told(4, 0, 0, 0)", x.told(4, 0, 0, 0), -2);
        Check.due("told(0, 0, 0, 2)", x.told(0, 0, 0, 2), -2);
        Check.due("told(0, 0, 0, -1)", x.told(0, 0, 0, -1), -2);
        Check.due("told(0, -1, 0, 0)", x.told(0, -1, 0, 0), -2);
        long[][] bad = {{1, 1, 1}, {0, 5, 1}, {-1, 1, 1}, {0, -1, 1}, {0, 1}, {0, 1, 1, 0}, {0, 1, 1, 0, 9, 1}, {1L << 32, 1, 1}};
        for (long[] row : bad) {
            put(x, 1, 3, row);
            Check.due("agree of a bad row", x.agree(1, 0, 0), -2);
            Check.due("told of a bad row", x.told(1, 0, 0, 0), -2);
            Check.due("odd of a bad row", x.odd(1), -2);
        }
    }

    private static void odd() {
        Check.promise("promise 33");
        YearAgo x = Check.market(YearTest.FAIR);
        Check.due("a slot has nothing", x.odd(0), -6);
        Check.due("odd(4)", x.odd(4), -2);
        Check.due("odd(-1)", x.odd(-1), -2);
        put(x, 0, 0, 0, 0, 1, 0, 1, 2, 0, 2, 1, 0, 3, 1, 0, 4, 0);
        Check.due("all are so", x.odd(0), -1);
        x.write(0, 11, 2);
        Check.due("the third", x.odd(0), 3);
        x.write(0, 2, 0);
        Check.due("the first", x.odd(0), 0);
        x.row(0, 0, 0);
        Check.due("none at all", x.odd(0), -1);
        put(x, 0, 3, 0, 0, (1L << 32) + 1);
        Check.due("eight bytes", x.odd(0), 0);
        Check.due("without a market", new YearAgo().odd(0), -2);
        put(x, 0, 0, 0, 0, 1);
        x.mark(0, 0, 16);
        Check.due("a mark changes nothing", x.odd(0), -1);
        x.turn();
        Check.due("by prices as they are", x.odd(0), 0);
    }

    private static void rows() {
        Check.promise("promises 51 and 52");
        YearAgo x = Check.market(YearTest.FAIR);
        Check.due("write of nothing", x.write(0, 0, 1), -6);
        Check.due("row(-1, 0, 0)", x.row(-1, 0, 0), -2);
        Check.due("row(4, 0, 0)", x.row(4, 0, 0), -2);
        Check.due("row(0, -1, 0)", x.row(0, -1, 0), -2);
        Check.due("row(0, 4, 0)", x.row(0, 4, 0), -2);
        Check.due("row(0, 0, 61)", x.row(0, 0, 61), -2);
        Check.due("row(0, 4, -1)", x.row(0, 4, -1), -2);
        Check.due("row(0, 0, -1)", x.row(0, 0, -1), -3);
        Check.due("the slot has nothing still", x.count(8), 0);
        Check.due("row(0, 3, 60)", x.row(0, 3, 60), 0);
        Check.due("write(0, 59, 1)", x.write(0, 59, 1), 0);
        Check.due("write(0, 60, 1)", x.write(0, 60, 1), -7);
        Check.due("write(0, -1, 1)", x.write(0, -1, 1), -7);
        Check.due("write(4, 0, 1)", x.write(4, 0, 1), -2);
        Check.due("write(-1, 0, 1)", x.write(-1, 0, 1), -2);
        put(x, 0, 0, 0, 1, 1);
        Check.due("row(0, 0, -1)", x.row(0, 0, -1), -3);
        Check.due("the slot stays", x.agree(0, 0, 1), 5);
        Check.due("a row in its place", x.row(0, 1, 3), 0);
        Check.due("all 0: none came on DAY 0", x.agree(0, 0, 0), 84);
        Check.due("row(0, 1, 0)", x.row(0, 1, 0), 0);
        Check.due("write in a row of none", x.write(0, 0, 1), -7);
    }

    private static void widths() {
        Check.promise("promise 52, cut to its width");
        YearAgo x = Check.market(YearTest.FAIR);
        long[] more = {1L << 8, 1L << 16, 1L << 32};
        for (int width = 0; width < 4; width++) {
            for (int i = 0; i < 3; i++) {
                put(x, 0, width, 0, more[i] + 1, more[i] + 2);
                Check.due("width " + width + " day cut", x.agree(0, 0, 1), i >= width ? 16 : -2);
                put(x, 0, width, 0, 1, more[i] + 2);
                Check.due("width " + width + " number cut", x.agree(0, 0, 1), i >= width ? 16 : 0);
            }
        }
    }

    private static void paste() {
        Check.promise("promise 53");
        YearAgo x = Check.market(YearTest.FAIR);
        put(x, 0, 0, 0, 1, 0, 2, 1, 0);
        Check.due("onto itself, one further", x.paste(0, 0, 0, 1, 5), 0);
        // Now 0 0 1 | 0 2 1: as they were.
        Check.due("agree(0, 0, 0)", x.agree(0, 0, 0), 16);
        Check.due("agree(0, 0, 2)", x.agree(0, 0, 2), 21);
        x.row(1, 0, 3);
        Check.due("into another", x.paste(0, 3, 1, 0, 3), 0);
        Check.due("agree(1, 0, 2)", x.agree(1, 0, 2), 21);
        Check.due("the first stays", x.agree(0, 0, 2), 21);
        Check.due("back by one", x.paste(0, 1, 0, 0, 5), 0);
        // Now 0 1 0 | 2 1 1: a number is no thing.
        Check.due("agree(0, 0, 0)", x.agree(0, 0, 0), -2);
        Check.due("all of it", x.paste(1, 0, 0, 3, 3), 0);
        Check.due("agree(0, 0, 1)", x.agree(0, 0, 1), 79);
        int[][] beyond = {{0, 0, 4}, {1, 0, 3}, {0, 4, 3}, {-1, 0, 1}, {0, -1, 1}, {0, 0, -1}, {4, 0, 0}, {0, 7, 0},
            {1, 0, Integer.MAX_VALUE}, {Integer.MAX_VALUE, 0, Integer.MAX_VALUE}, {0, Integer.MAX_VALUE, 2}};
        for (int[] at : beyond) {
            Check.due("paste(1, " + at[0] + ", 0, " + at[1] + ", " + at[2] + ")", x.paste(1, at[0], 0, at[1], at[2]), -7);
        }
        Check.due("nothing happens", x.agree(0, 0, 1), 79);
        Check.due("none, at the ends", x.paste(1, 3, 0, 6, 0), 0);
    }

    private static void pasteWidths() {
        Check.promise("promise 53, refusals");
        YearAgo x = new YearAgo();
        Check.due("no such slot", x.paste(-1, 0, 0, 0, 0), -2);
        Check.due("no such slot to", x.paste(0, 0, 4, 0, 0), -2);
        Check.due("one has nothing", x.paste(0, 0, 1, 0, 0), -6);
        x.row(0, 0, 3);
        Check.due("the other has nothing", x.paste(0, 0, 1, 0, 9), -6);
        Check.due("the first has nothing", x.paste(1, 0, 0, 0, -1), -6);
        x.row(1, 1, 3);
        Check.due("not of one width", x.paste(0, 0, 1, 0, 9), -8);
        Check.due("not of one width, by none", x.paste(0, 0, 1, 0, 0), -8);
        x.row(1, 0, 2);
        Check.due("of one width", x.paste(0, 0, 1, 0, 2), 0);
        Check.due("beyond the other", x.paste(0, 0, 1, 0, 3), -7);
    }
}
