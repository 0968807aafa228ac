/** Promises 16 to 18, 21 to 23, 26 to 28, 40 and 41: a seller alone and a buyer alone. */
public final class AloneTest {
    private AloneTest() {
    }

    public static void main(String[] args) {
        best();
        best2();
        without();
        made();
        most();
        keeping();
        buyers();
        buyersWindow();
        Check.finish();
    }

    private static void best() {
        Check.promise("promise 16");
        YearAgo x = Check.market(YearTest.FAIR);
        Check.due("best(0)", x.best(0), 90);
        Check.due("best(1)", x.best(1), -2);
        Check.due("best(-1)", x.best(-1), -2);
        x.hold(0, 99);
        Check.due("what he asks aside", x.best(0), 90);
        YearAgo two = Check.market("market days 4;thing price 5 keeps 3;seller 0 has 3 asks 0;seller 0 has 3 asks 0;"
            + "buyer 0 wants 4 pays 5 from 0 to 0 stores 0;");
        Check.due("others aside", two.best(1), 15);
    }

    /** PRICES 3 5 4 9, keeps 1: 2 pieces on DAY 0, 2 on DAY 2; asked 1, 2, 2, 1. */
    private static void best2() {
        Check.promise("promise 16, holding");
        YearAgo x = Check.market("market days 4;thing price 3 keeps 1;was 0 on 1 5;was 0 on 2 4;was 0 on 3 9;"
            + "seller 0 has 2 asks 0;grows 0 on 2 2;buyer 0 wants 1 pays 9 from 0 to 3 stores 0;"
            + "buyer 0 wants 1 pays 9 from 1 to 2 stores 0;");
        Check.due("2 on DAY 1, 1 on DAY 2, 1 on DAY 3", x.best(0), 10 + 4 + 9);
        Check.due("without DAY 1: 1 on DAY 0", x.worth(0, 1), 10 - 3);
        Check.due("without DAY 3: 2 on DAY 2", x.worth(0, 3), 9 - 4);
        Check.due("without DAY 0", x.worth(0, 0), 0);
        Check.due("thursday", x.thursday(0), 1);
    }

    private static void without() {
        Check.promise("promises 17 and 18");
        YearAgo x = Check.market(YearTest.FAIR);
        int[] due = {0, 20, 30, 10, 0};
        for (int day = 0; day < 5; day++) {
            Check.due("worth(0, " + day + ")", x.worth(0, day), due[day]);
        }
        Check.due("worth(0, 5)", x.worth(0, 5), -2);
        Check.due("worth(0, -1)", x.worth(0, -1), -2);
        Check.due("worth(1, 0)", x.worth(1, 0), -2);
        Check.due("thursday(0)", x.thursday(0), 2);
        Check.due("thursday(1)", x.thursday(1), -2);
        YearAgo same = Check.market("market days 4;thing price 5 keeps 3;seller 0 has 1 asks 0;"
            + "buyer 0 wants 1 pays 5 from 1 to 3 stores 0;");
        Check.due("no day is worth more: the first", same.thursday(0), 0);
        Check.due("its worth", same.worth(0, 1), 0);
        YearAgo none = Check.market("market days 4;thing price 5 keeps 3;seller 0 has 1 asks 0;");
        Check.due("it is 0", none.thursday(0), -1);
        Check.due("best", none.best(0), 0);
    }

    private static void made() {
        Check.promise("promises 26 and 27");
        YearAgo x = Check.market(YearTest.FAIR);
        int[][] due = {{10, 0}, {11, 4}, {14, 16}, {15, 20}, {16, 12}, {20, 20}, {21, -20}, {0, -20}, {99, -20}};
        for (int[] at : due) {
            Check.due("made(0, 1, " + at[0] + ")", x.made(0, 1, at[0]), at[1]);
        }
        Check.due("made(0, 1, 100)", x.made(0, 1, 100), -1000000);
        Check.due("made(0, 1, -1)", x.made(0, 1, -1), -1000000);
        Check.due("made(0, 5, 1)", x.made(0, 5, 1), -1000000);
        Check.due("made(1, 1, 1)", x.made(1, 1, 1), -1000000);
        Check.due("the price stays", x.price(0, 1), 10);
        Check.due("least(0, 1, 1)", x.least(0, 1, 1), 11);
        Check.due("least(0, 1, 4)", x.least(0, 1, 4), 11);
        Check.due("least(0, 1, 5)", x.least(0, 1, 5), 12);
        Check.due("least(0, 1, 20)", x.least(0, 1, 20), 15);
        Check.due("least(0, 1, 21)", x.least(0, 1, 21), -1);
        Check.due("least(0, 1, 9999)", x.least(0, 1, 9999), -1);
        Check.due("least(0, 1, 10000)", x.least(0, 1, 10000), -2);
        Check.due("least(0, 1, 0)", x.least(0, 1, 0), -2);
        Check.due("least(0, 5, 1)", x.least(0, 5, 1), -2);
        Check.due("least(1, 1, 1)", x.least(1, 1, 1), -2);
        YearAgo top = Check.market("market days 4;thing price 5 keeps 0;seller 0 has 1 asks 0;"
            + "buyer 0 wants 1 pays 99 from 0 to 0 stores 0;");
        Check.due("by 99 alone", top.least(0, 0, 94), 99);
        Check.due("by none", top.least(0, 0, 95), -1);
        YearAgo down = Check.market("market days 4;thing price 50 keeps 0;seller 0 has 9 asks 0;"
            + "buyer 0 wants 1 pays 99 from 0 to 0 stores 0;buyer 0 wants 9 pays 7 from 0 to 0 stores 0;");
        Check.due("by less it is more", down.least(0, 0, 13), 7);
        YearAgo capped = Check.market(YearTest.FAIR + "cap 0;");
        Check.due("the cap aside", capped.least(0, 1, 20), 15);
    }

    private static void most() {
        Check.promise("promise 28");
        Check.due("most(0)", Check.market(YearTest.FAIR).most(0), 115);
        Check.due("by a cap of 4", Check.market(YearTest.FAIR + "cap 4;").most(0), 114);
        Check.due("by a cap of 0", Check.market(YearTest.FAIR + "cap 0;").most(0), -1);
        Check.due("most(1)", Check.market(YearTest.FAIR).most(1), -2);
        Check.due("most(-1)", Check.market(YearTest.FAIR).most(-1), -2);
        YearAgo dear = Check.market("market days 4;thing price 90 keeps 0;seller 0 has 1 asks 0;"
            + "buyer 0 wants 1 pays 40 from 0 to 0 stores 0;");
        Check.due("too dear: by less it is more", dear.most(0), 40);
        YearAgo top = Check.market("market days 20;thing price 90 keeps 0;seller 0 has 0 asks 0;grows 0 on 19 1;"
            + "buyer 0 wants 1 pays 99 from 0 to 19 stores 0;");
        Check.due("no n above 99", top.most(0), 1999);
    }

    private static void keeping() {
        Check.promise("promises 40 and 41");
        YearAgo x = Check.market(YearTest.FAIR);
        Check.due("keeping(0, 0)", x.keeping(0, 0), 60);
        Check.due("keeping(0, 1)", x.keeping(0, 1), 90);
        Check.due("keeping(0, 30)", x.keeping(0, 30), 90);
        Check.due("keeping(0, 31)", x.keeping(0, 31), -2);
        Check.due("keeping(0, -1)", x.keeping(0, -1), -2);
        Check.due("keeping(1, 0)", x.keeping(1, 0), -2);
        Check.due("best stays", x.best(0), 90);
        Check.due("enough(0)", x.enough(0), 1);
        Check.due("enough(1)", x.enough(1), -2);
        YearAgo far = Check.market("market days 20;thing price 5 keeps 0;was 0 on 19 6;seller 0 has 1 asks 0;"
            + "buyer 0 wants 1 pays 9 from 0 to 19 stores 0;");
        Check.due("till the last day", far.enough(0), 19);
        Check.due("one day less", far.keeping(0, 18), 5);
        Check.due("by it", far.keeping(0, 19), 6);
        YearAgo none = Check.market("market days 4;thing price 5 keeps 9;seller 0 has 1 asks 0;");
        Check.due("nothing is enough", none.enough(0), 0);
    }

    private static void buyers() {
        Check.promise("promises 21 to 23");
        YearAgo x = Check.market(YearTest.FAIR);
        Check.due("cheapest(0)", x.cheapest(0), 40);
        Check.due("cheapest(1)", x.cheapest(1), 60);
        int[] first = {2, 2, 0, 0, 0};
        int[] second = {0, 4, 0, 2, 0};
        for (int day = 0; day < 5; day++) {
            Check.due("buys(0, " + day + ")", x.buys(0, day), first[day]);
            Check.due("buys(1, " + day + ")", x.buys(1, day), second[day]);
        }
        Check.due("crowd(0)", x.crowd(0), 0);
        Check.due("crowd(1)", x.crowd(1), 1);
        Check.due("cheapest(2)", x.cheapest(2), -2);
        Check.due("cheapest(-1)", x.cheapest(-1), -2);
        Check.due("buys(0, 5)", x.buys(0, 5), -2);
        Check.due("buys(0, -1)", x.buys(0, -1), -2);
        Check.due("buys(2, 0)", x.buys(2, 0), -2);
        Check.due("crowd(2)", x.crowd(2), -2);
    }

    /** PRICES 1 2 2 3 1; he wants 1 on DAYS 3 and 4. */
    private static void buyersWindow() {
        Check.promise("promise 21, how far ahead");
        int[][] due = {{0, 9, 3, 3}, {1, 9, 2, 2}, {2, 9, 2, 2}, {3, 9, 1, 0}, {9, 9, 1, 0}, {9, 0, 3, 3}, {9, 2, 2, 2}, {9, 3, 1, 0}};
        for (int[] at : due) {
            YearAgo x = Check.market("market days 5;thing price 2 keeps " + at[1] + ";was 0 on 0 1;was 0 on 3 3;was 0 on 4 1;"
                + "buyer 0 wants 1 pays 0 from 3 to 4 stores " + at[0] + ";");
            String with = " that stores " + at[0] + " of what keeps " + at[1];
            Check.due("cheapest" + with, x.cheapest(0), at[2] + 1);
            Check.due("buys for DAY 3" + with, x.buys(0, at[3]), 1);
            Check.due("buys on DAY 4" + with, x.buys(0, 4), 1);
        }
    }
}
