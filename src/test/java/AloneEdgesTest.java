/** The edges that 'Terms' III and promises 16 to 18, 21 to 23, 26 to 28, 40 and 41 name. */
public final class AloneEdgesTest {
    private AloneEdgesTest() {
    }

    public static void main(String[] args) {
        bestUpToAsked();
        bestOfWhatHeHasThen();
        bestByPrices();
        bestFullAndEmpty();
        worthEdges();
        thursdayEdges();
        sellersRefused();
        buysAhead();
        buysAtAnyPrice();
        buysAsLateAsCanBe();
        crowdEdges();
        buyersRefused();
        madeEdges();
        leastEdges();
        mostByCap();
        mostFirstOfSeveral();
        keepingEdges();
        enoughEdges();
        marketsOfNothing();
        Check.finish();
    }

    private static String buyer(int wants, int pays, int from, int to) {
        return "buyer 0 wants " + wants + " pays " + pays + " from " + from + " to " + to + " stores 0;";
    }

    // ---- a SELLER alone ----

    private static void bestUpToAsked() {
        Check.promise("Terms III: up to ASKED");
        for (int stock = 0; stock <= 5; stock++) {
            for (int wants = 1; wants <= 5; wants++) {
                YearAgo x = Check.market("market days 4;thing price 7 keeps 0;seller 0 has " + stock + " asks 0;" + buyer(wants, 7, 0, 0));
                Check.due("best(0) of " + stock + ", asked " + wants, x.best(0), 7 * Math.min(stock, wants));
                Check.due("worth(0, 0)", x.worth(0, 0), 7 * Math.min(stock, wants));
                Check.due("thursday(0)", x.thursday(0), stock == 0 ? -1 : 0);
            }
        }
        // Seller 1 could sell nothing in the YEAR; alone he sells as if he were the first, whatever he asks.
        YearAgo x = Check.market("market days 4;thing price 7 keeps 0;seller 0 has 9 asks 0;seller 0 has 2 asks 99;" + buyer(2, 7, 0, 0));
        Check.due("in the YEAR", x.seller(1, 0), 0);
        Check.due("alone", x.best(1), 14);
        x.hold(1, 0);
        Check.due("what he asks aside", x.best(1), 14);
    }

    private static void bestOfWhatHeHasThen() {
        Check.promise("Terms III: of pieces that he has then");
        for (int keeps : new int[] {0, 1, 2, 3, 30}) {
            for (int came = 0; came < 4; came++) {
                for (int day = 0; day < 4; day++) {
                    YearAgo x = Check.market("market days 4;thing price 7 keeps " + keeps + ";seller 0 has 0 asks 0;"
                        + "grows 0 on " + came + " 3;" + buyer(2, 7, day, day));
                    boolean there = came <= day && day <= came + keeps;
                    Check.due("of what came on " + came + " and keeps " + keeps + ", on " + day, x.best(0), there ? 14 : 0);
                }
            }
        }
        for (int day = 0; day < 4; day++) {
            YearAgo x = Check.market("market days 4;thing price 7 keeps 2;seller 0 has 3 asks 0;" + buyer(2, 7, day, day));
            Check.due("of his stock, on " + day, x.best(0), day <= 2 ? 14 : 0);
        }
        YearAgo both = Check.market("market days 4;thing price 7 keeps 2;seller 0 has 3 asks 0;grows 0 on 0 2;" + buyer(9, 7, 0, 0));
        Check.due("his stock and what grows on DAY 0", both.best(0), 35);
        // PRICES 1 2 3 9, keeps 1: a piece of each of DAYS 0 and 1, one asked on each DAY.
        YearAgo held = Check.market("market days 4;thing price 1 keeps 1;was 0 on 1 2;was 0 on 2 3;was 0 on 3 9;seller 0 has 1 asks 0;"
            + "grows 0 on 1 1;" + buyer(1, 9, 0, 3));
        Check.due("sold on DAYS 1 and 2", held.best(0), 5);
        Check.due("two pieces of DAY 0 can't be", Check.market("market days 4;thing price 1 keeps 1;was 0 on 2 9;seller 0 has 2 asks 0;"
            + buyer(1, 9, 0, 3)).best(0), 2);
    }

    private static void bestByPrices() {
        Check.promise("Terms III: ASKED by PRICES");
        for (int price : new int[] {1, 50, 98, 99}) {
            for (int pays = price - 1; pays <= Math.min(99, price + 1); pays++) {
                YearAgo x = Check.market("market days 4;thing price " + price + " keeps 9;seller 0 has 3 asks 99;" + buyer(2, pays, 3, 3));
                Check.due("best(0) at " + price + ", paid " + pays, x.best(0), pays >= price ? 2 * price : 0);
                Check.due("worth(0, 3)", x.worth(0, 3), pays >= price ? 2 * price : 0);
                Check.due("worth(0, 2)", x.worth(0, 2), 0);
            }
        }
        // By the PRICE of that DAY, not of DAY 0, nor two years ago.
        Check.due("cheap on DAY 3", Check.market("market days 4;thing price 99 keeps 9;was 0 on 3 5;seller 0 has 3 asks 0;" + buyer(2, 5, 0, 3)).best(0), 10);
        Check.due("dear on DAY 3", Check.market("market days 4;thing price 5 keeps 9;was 0 on 3 99;seller 0 has 3 asks 0;" + buyer(2, 50, 3, 3)).best(0), 0);
        YearAgo x = Check.market("market days 4;thing price 5 keeps 9;seller 0 has 3 asks 0;" + buyer(2, 5, 0, 0));
        Check.due("best(0)", x.best(0), 10);
        x.mark(0, 0, 4);
        Check.due("a MARK changes nothing", x.best(0), 10);
        x.turn();
        Check.due("by the new PRICE", x.best(0), 8);
        YearAgo free = Check.market("market days 4;thing price 0 keeps 9;seller 0 has 3 asks 0;" + buyer(2, 5, 0, 3));
        Check.due("sold for nothing", free.best(0), 0);
        Check.due("thursday(0): it is 0", free.thursday(0), -1);
    }

    private static void bestFullAndEmpty() {
        Check.promise("Terms III: as much as can be, and nothing");
        StringBuilder text = new StringBuilder("market days 20;thing price 99 keeps 0;seller 0 has 0 asks 0;");
        for (int day = 0; day < 20; day++) {
            text.append("grows 0 on ").append(day).append(" 63;");
        }
        for (int b = 0; b < 7; b++) {
            text.append(buyer(9, 99, 0, 19));
        }
        YearAgo x = Check.market(text.toString());
        Check.due("best(0)", x.best(0), 20 * 63 * 99);
        Check.due("in the YEAR too", x.seller(0, 0), 20 * 63 * 99);
        Check.due("worth(0, 19)", x.worth(0, 19), 63 * 99);
        Check.due("thursday(0)", x.thursday(0), 0);
        Check.due("enough(0)", x.enough(0), 0);
        YearAgo none = Check.market("market days 4;thing price 99 keeps 30;seller 0 has 99 asks 0;");
        Check.due("nothing is ASKED", none.best(0), 0);
        YearAgo empty = Check.market("market days 4;thing price 99 keeps 30;seller 0 has 0 asks 0;" + buyer(9, 99, 0, 3));
        Check.due("he has nothing", empty.best(0), 0);
        Check.due("worth(0, 0)", empty.worth(0, 0), 0);
        Check.due("thursday(0)", empty.thursday(0), -1);
        Check.due("enough(0)", empty.enough(0), 0);
    }

    private static void worthEdges() {
        Check.promise("promise 17: how much less that is without a DAY");
        // PRICES 4 6 9 5; one piece that keeps; one asked on each DAY.
        YearAgo x = Check.market("market days 4;thing price 4 keeps 9;was 0 on 1 6;was 0 on 2 9;was 0 on 3 5;seller 0 has 1 asks 0;" + buyer(1, 9, 0, 3));
        int[] one = {0, 0, 3, 0};
        for (int day = 0; day < 4; day++) {
            Check.due("worth(0, " + day + ") of one piece", x.worth(0, day), one[day]);
        }
        YearAgo y = Check.market("market days 4;thing price 4 keeps 9;was 0 on 1 6;was 0 on 2 9;was 0 on 3 5;seller 0 has 4 asks 0;" + buyer(1, 9, 0, 3));
        int[] all = {4, 6, 9, 5};
        for (int day = 0; day < 4; day++) {
            Check.due("worth(0, " + day + ") of four pieces", y.worth(0, day), all[day]);
        }
        // What comes on the DAY left out can be sold behind it.
        YearAgo z = Check.market("market days 4;thing price 9 keeps 1;was 0 on 2 8;seller 0 has 0 asks 0;grows 0 on 1 1;" + buyer(1, 9, 1, 2));
        Check.due("worth(0, 1): sold on DAY 2", z.worth(0, 1), 1);
        Check.due("best(0) behind it", z.best(0), 9);
    }

    private static void thursdayEdges() {
        Check.promise("promise 18: the first of several; NONE: it is 0");
        String four = "market days 4;thing price 5 keeps 9;seller 0 has 4 asks 0;";
        Check.due("all alike", Check.market(four + buyer(1, 9, 0, 3)).thursday(0), 0);
        Check.due("the last DAY alone", Check.market(four + buyer(1, 9, 3, 3)).thursday(0), 3);
        Check.due("DAY 0 alone", Check.market(four + buyer(1, 9, 0, 0)).thursday(0), 0);
        Check.due("two alike", Check.market(four + buyer(1, 9, 1, 1) + buyer(1, 9, 3, 3)).thursday(0), 1);
        Check.due("the later is worth more", Check.market(four + buyer(1, 9, 1, 1) + buyer(2, 9, 3, 3)).thursday(0), 3);
        Check.due("too poor", Check.market(four + buyer(1, 4, 0, 3)).thursday(0), -1);
        Check.due("one is worth 1", Check.market("market days 4;thing price 1 keeps 9;seller 0 has 1 asks 0;" + buyer(1, 1, 2, 2)).thursday(0), 2);
        YearAgo any = Check.market("market days 4;thing price 5 keeps 9;seller 0 has 1 asks 0;" + buyer(1, 9, 2, 3));
        Check.due("no DAY is worth anything, but it is not 0", any.thursday(0), 0);
    }

    private static void sellersRefused() {
        Check.promise("promises 16 to 18, 26 to 28, 40, 41: there are none such");
        for (String text : new String[] {YearTest.FAIR, ExtremesTest.greatest()}) {
            YearAgo x = Check.market(text);
            int s = x.count(2) - 1;
            int d = x.count(0) - 1;
            long[] before = Check.state(x);
            Check.edges("best", 0, s, -2, x::best);
            Check.edges("worth", 0, s, -2, n -> x.worth(n, d));
            Check.edges("worth day", 0, d, -2, n -> x.worth(s, n));
            Check.edges("thursday", 0, s, -2, x::thursday);
            Check.edges("made", 0, s, -1000000, n -> x.made(n, d, 5));
            Check.edges("made day", 0, d, -1000000, n -> x.made(s, n, 5));
            Check.edges("made n", 0, 99, -1000000, n -> x.made(s, d, n));
            Check.edges("least", 0, s, -2, n -> x.least(n, d, 1));
            Check.edges("least day", 0, d, -2, n -> x.least(s, n, 1));
            Check.edges("least gain", 1, 9999, -2, n -> x.least(s, d, n));
            Check.edges("most", 0, s, -2, x::most);
            Check.edges("keeping", 0, s, -2, n -> x.keeping(n, 1));
            Check.edges("keeping n", 0, 30, -2, n -> x.keeping(s, n));
            Check.edges("enough", 0, s, -2, x::enough);
            Check.stays("what asks alone", x, before);
        }
    }

    // ---- a BUYER alone ----

    /** On DAY 5 he wants 3; DAY 0 costs 1, DAY 1 costs 2, .. */
    private static String rising(int keeps, int stores) {
        StringBuilder text = new StringBuilder("market days 6;thing price 1 keeps " + keeps + ";");
        for (int day = 1; day < 6; day++) {
            text.append("was 0 on ").append(day).append(' ').append(day + 1).append(';');
        }
        return text + "buyer 0 wants 3 pays 0 from 5 to 5 stores " + stores + ";";
    }

    private static void buysAhead() {
        Check.promise("Terms III: up to so many DAYS ahead as he stores, and it keeps");
        for (int keeps : new int[] {0, 1, 2, 4, 5, 6, 30}) {
            for (int stores : new int[] {0, 1, 2, 4, 5, 6, 30}) {
                YearAgo x = Check.market(rising(keeps, stores));
                int first = Math.max(0, 5 - Math.min(keeps, stores));
                Check.due("cheapest(0) keeps " + keeps + " stores " + stores, x.cheapest(0), 3 * (first + 1));
                for (int day = 0; day < 6; day++) {
                    Check.due("buys(0, " + day + ")", x.buys(0, day), day == first ? 3 : 0);
                }
                Check.due("crowd(0)", x.crowd(0), first);
            }
        }
        // No DAY ahead of DAY 0, also where he stores for long; nor does the last come ahead of it.
        YearAgo zero = Check.market("market days 4;thing price 9 keeps 30;was 0 on 3 1;buyer 0 wants 2 pays 0 from 0 to 0 stores 30;");
        Check.due("cheapest(0)", zero.cheapest(0), 18);
        Check.due("buys(0, 0)", zero.buys(0, 0), 2);
        Check.due("buys(0, 3)", zero.buys(0, 3), 0);
        YearAgo far = Check.market("market days 20;thing price 9 keeps 19;was 0 on 0 1;buyer 0 wants 2 pays 0 from 18 to 19 stores 19;");
        Check.due("nineteen DAYS ahead", far.cheapest(0), 4);
        YearAgo near = Check.market("market days 20;thing price 9 keeps 18;was 0 on 0 1;buyer 0 wants 2 pays 0 from 18 to 19 stores 19;");
        Check.due("eighteen DAYS ahead", near.cheapest(0), 2 + 18);
    }

    private static void buysAtAnyPrice() {
        Check.promise("Terms III: pays aside, at any PRICE");
        YearAgo x = Check.market("market days 20;thing price 99 keeps 0;buyer 0 wants 9 pays 0 from 0 to 19 stores 30;");
        Check.due("cheapest(0)", x.cheapest(0), 20 * 9 * 99);
        Check.due("buys(0, 0)", x.buys(0, 0), 9);
        Check.due("buys(0, 19)", x.buys(0, 19), 9);
        Check.due("in the YEAR he gets nothing", x.buyer(0, 1), 0);
        YearAgo free = Check.market("market days 4;thing price 0 keeps 0;buyer 0 wants 1 pays 0 from 2 to 2 stores 0;");
        Check.due("cheapest(0) for nothing", free.cheapest(0), 0);
        Check.due("buys(0, 2)", free.buys(0, 2), 1);
        Check.due("crowd(0)", free.crowd(0), 2);
        YearAgo heap = Check.market("market days 20;thing price 99 keeps 30;was 0 on 0 0;buyer 0 wants 9 pays 0 from 0 to 19 stores 30;");
        Check.due("all on DAY 0", heap.buys(0, 0), 180);
        Check.due("for nothing", heap.cheapest(0), 0);
    }

    private static void buysAsLateAsCanBe() {
        Check.promise("Terms III: bought as late as can be for that");
        YearAgo x = Check.market("market days 5;thing price 3 keeps 30;was 0 on 4 4;buyer 0 wants 1 pays 0 from 0 to 4 stores 30;");
        int[] due = {1, 1, 1, 2, 0};
        for (int day = 0; day < 5; day++) {
            Check.due("buys(0, " + day + ")", x.buys(0, day), due[day]);
        }
        Check.due("cheapest(0)", x.cheapest(0), 15);
        YearAgo same = Check.market("market days 5;thing price 3 keeps 30;buyer 0 wants 1 pays 0 from 0 to 4 stores 30;");
        for (int day = 0; day < 5; day++) {
            Check.due("all alike: buys(0, " + day + ")", same.buys(0, day), 1);
        }
    }

    private static void crowdEdges() {
        Check.promise("promise 23: the first of several");
        String four = "market days 4;thing price 5 keeps 9;";
        Check.due("all alike", Check.market(four + "buyer 0 wants 1 pays 0 from 0 to 3 stores 0;").crowd(0), 0);
        Check.due("the last two", Check.market(four + "buyer 0 wants 1 pays 0 from 2 to 3 stores 0;").crowd(0), 2);
        Check.due("the last", Check.market(four + "was 0 on 3 4;buyer 0 wants 1 pays 0 from 3 to 3 stores 9;").crowd(0), 3);
        Check.due("the most", Check.market(four + "was 0 on 2 4;buyer 0 wants 1 pays 0 from 0 to 3 stores 9;").crowd(0), 2);
        Check.due("ahead of his DAYS", Check.market(four + "was 0 on 0 4;buyer 0 wants 1 pays 0 from 3 to 3 stores 3;").crowd(0), 0);
    }

    private static void buyersRefused() {
        Check.promise("promises 21 to 23: -2, there are none such");
        for (String text : new String[] {YearTest.FAIR, ExtremesTest.greatest()}) {
            YearAgo x = Check.market(text);
            int b = x.count(3) - 1;
            int d = x.count(0) - 1;
            long[] before = Check.state(x);
            Check.edges("cheapest", 0, b, -2, x::cheapest);
            Check.edges("buys", 0, b, -2, n -> x.buys(n, d));
            Check.edges("buys day", 0, d, -2, n -> x.buys(b, n));
            Check.edges("crowd", 0, b, -2, x::crowd);
            Check.stays("what a BUYER asks", x, before);
        }
    }

    // ---- MADE ----

    private static void madeEdges() {
        Check.promise("promise 26: n 0 .. 99, and none such");
        // Two pieces; PRICE 50 on DAY 1: wanted 1 for up to 99, 1 more for up to 40.
        YearAgo x = Check.market("market days 4;thing price 50 keeps 0;seller 0 has 0 asks 0;grows 0 on 1 2;" + buyer(1, 99, 1, 1) + buyer(1, 40, 1, 1));
        int[][] due = {{0, -50}, {1, 2 - 50}, {40, 80 - 50}, {41, 41 - 50}, {50, 0}, {51, 1}, {98, 48}, {99, 49}};
        for (int[] at : due) {
            Check.due("made(0, 1, " + at[0] + ")", x.made(0, 1, at[0]), at[1]);
        }
        Check.due("made(0, 0, 99): nothing is asked", x.made(0, 0, 99), 0);
        Check.due("made(0, 3, 99): nothing is there", x.made(0, 3, 99), 0);
        Check.due("the PRICE is as it was", x.price(0, 1), 50);
        Check.due("what it cost too", x.old(0, 1), 50);
        Check.due("BEST too", x.best(0), 50);
        // A loss of one is no refusal, nor is a loss of two.
        Check.due("a loss of 1", x.made(0, 1, 49), -1);
        Check.due("a loss of 2", x.made(0, 1, 48), -2);
    }

    private static void leastEdges() {
        Check.promise("promise 27: gain 1 .. 9,999; NONE: by none");
        YearAgo x = Check.market("market days 4;thing price 0 keeps 0;seller 0 has 63 asks 0;" + buyer(9, 99, 0, 0).repeat(7));
        Check.due("by 1", x.least(0, 0, 1), 1);
        Check.due("by 63", x.least(0, 0, 63), 1);
        Check.due("by 64", x.least(0, 0, 64), 2);
        Check.due("by 6237 - 63", x.least(0, 0, 6237 - 63), 98);
        Check.due("by 6237 - 62", x.least(0, 0, 6237 - 62), 99);
        Check.due("by 6237", x.least(0, 0, 6237), 99);
        Check.due("by 6238", x.least(0, 0, 6238), -1);
        Check.due("by 9999", x.least(0, 0, 9999), -1);
        Check.due("on a DAY of nobody", x.least(0, 1, 1), -1);
        // The cap says what can be MARKED, not what could be.
        YearAgo capped = Check.market("market days 4;thing price 0 keeps 0;seller 0 has 1 asks 0;" + buyer(1, 99, 0, 0) + "cap 0;");
        Check.due("a cap of 0", capped.least(0, 0, 99), 99);
        // Too dear for all: by less it is more.
        YearAgo dear = Check.market("market days 4;thing price 99 keeps 0;seller 0 has 1 asks 0;" + buyer(1, 98, 0, 0));
        Check.due("by 1, too dear", dear.least(0, 0, 1), 1);
        Check.due("by 98", dear.least(0, 0, 98), 98);
        Check.due("by 99", dear.least(0, 0, 99), -1);
    }

    private static void mostByCap() {
        Check.promise("promise 28: n no more than PRICE and cap");
        String one = "market days 4;thing price 60 keeps 0;seller 0 has 1 asks 0;" + buyer(1, 99, 0, 0);
        for (int cap : new int[] {0, 1, 2, 38, 39, 40, 98, 99}) {
            Check.due("most(0) by a cap of " + cap, Check.market(one + "cap " + cap + ";").most(0), cap == 0 ? -1 : Math.min(99, 60 + cap));
        }
        Check.due("without a cap", Check.market(one).most(0), 99);
        String poor = "market days 4;thing price 60 keeps 0;seller 0 has 1 asks 0;" + buyer(1, 62, 0, 0);
        for (int cap = 0; cap <= 4; cap++) {
            Check.due("paid 62, by a cap of " + cap, Check.market(poor + "cap " + cap + ";").most(0), cap == 0 ? -1 : Math.min(62, 60 + cap));
        }
        Check.due("by less, by a cap of 0", Check.market("market days 4;thing price 60 keeps 0;seller 0 has 1 asks 0;"
            + buyer(1, 59, 0, 0) + "cap 0;").most(0), 59);
        Check.due("nothing is ASKED", Check.market("market days 4;thing price 60 keeps 0;seller 0 has 1 asks 0;").most(0), -1);
        Check.due("he has nothing", Check.market("market days 4;thing price 60 keeps 0;seller 0 has 0 asks 0;" + buyer(1, 99, 0, 3)).most(0), -1);
        Check.due("as dear as can be", Check.market("market days 4;thing price 99 keeps 0;seller 0 has 1 asks 0;" + buyer(1, 99, 0, 3)).most(0), -1);
        Check.due("from 0 by a cap of 1", Check.market("market days 4;thing price 0 keeps 0;seller 0 has 1 asks 0;"
            + buyer(1, 99, 0, 0) + "cap 1;").most(0), 1);
        // PRICE of that DAY: 30 on DAY 2, and what it cost two years ago is neither.
        String days = "market days 4;thing price 60 keeps 0;was 0 on 2 30;old 0 on 2 90;seller 0 has 0 asks 0;grows 0 on 2 1;" + buyer(1, 99, 2, 2);
        Check.due("on DAY 2 by a cap of 5", Check.market(days + "cap 5;").most(0), 235);
        Check.due("on DAY 2 by a cap of 69", Check.market(days + "cap 69;").most(0), 299);
        // As much as is ASKED on that DAY, though on DAY 0 more is.
        Check.due("paid 40 on DAY 3", Check.market("market days 4;thing price 10 keeps 0;seller 0 has 0 asks 0;grows 0 on 3 1;"
            + buyer(9, 99, 0, 0) + buyer(1, 40, 3, 3)).most(0), 340);
        Check.due("from 0 by a cap of 0", Check.market("market days 4;thing price 0 keeps 0;seller 0 has 1 asks 0;"
            + buyer(1, 99, 0, 0) + "cap 0;").most(0), -1);
    }

    private static void mostFirstOfSeveral() {
        Check.promise("promise 28: the first of several by DAY, then the least n");
        String head = "market days 20;thing price 5 keeps 0;seller 0 has 0 asks 0;";
        Check.due("two DAYS", Check.market(head + "grows 0 on 7 1;grows 0 on 19 1;" + buyer(1, 9, 7, 19)).most(0), 709);
        Check.due("the last is more", Check.market(head + "grows 0 on 7 1;grows 0 on 19 2;" + buyer(2, 9, 7, 19)).most(0), 1909);
        Check.due("DAY 0", Check.market(head + "grows 0 on 0 1;" + buyer(1, 9, 0, 19)).most(0), 9);
        Check.due("two n: 2 at 10 as 1 at 20", Check.market(head + "grows 0 on 3 2;" + buyer(1, 20, 3, 3) + buyer(1, 10, 3, 3)).most(0), 310);
        Check.due("2 at 10, 1 at 21", Check.market(head + "grows 0 on 3 2;" + buyer(1, 21, 3, 3) + buyer(1, 10, 3, 3)).most(0), 321);
        Check.due("greatest n on the last DAY", Check.market(head + "grows 0 on 19 1;" + buyer(1, 99, 19, 19)).most(0), 1999);
    }

    // ---- how long it keeps ----

    private static void keepingEdges() {
        Check.promise("promise 40: n 0 .. 30");
        StringBuilder text = new StringBuilder("market days 20;thing price 1 keeps 3;");
        for (int day = 1; day < 20; day++) {
            text.append("was 0 on ").append(day).append(' ').append(day + 1).append(';');
        }
        YearAgo x = Check.market(text + "seller 0 has 1 asks 0;seller 0 has 1 asks 0;" + buyer(1, 99, 0, 19));
        for (int n = 0; n <= 30; n++) {
            Check.due("keeping(0, " + n + ")", x.keeping(0, n), Math.min(20, n + 1));
            Check.due("keeping(1, " + n + ")", x.keeping(1, n), Math.min(20, n + 1));
        }
        Check.due("as it keeps", x.best(0), 4);
        Check.due("the YEAR is as it was: sold on DAY 0", x.seller(0, 0), 1);
        Check.due("and on DAY 1", x.seller(1, 0), 2);
        Check.due("enough(0)", x.enough(0), 19);
        Check.due("enough behind it leaves BEST", x.best(0), 4);
    }

    private static void enoughEdges() {
        Check.promise("promise 41: the least n by which that is as much as by 30");
        for (int day = 0; day < 20; day++) {
            YearAgo x = Check.market("market days 20;thing price 5 keeps 30;seller 0 has 1 asks 0;" + buyer(1, 9, day, day));
            Check.due("sold on DAY " + day, x.enough(0), day);
            Check.due("by it", x.keeping(0, day), 5);
            Check.due("by one less", x.keeping(0, day - 1), day == 0 ? -2 : 0);
        }
        // Each of two pieces needs its own.
        YearAgo two = Check.market("market days 20;thing price 5 keeps 0;seller 0 has 1 asks 0;grows 0 on 10 1;" + buyer(1, 9, 4, 4) + buyer(1, 9, 19, 19));
        Check.due("4 and 9", two.enough(0), 9);
    }

    private static void marketsOfNothing() {
        Check.promise("a MARKET without SELLERS, without BUYERS");
        YearAgo x = Check.market("market days 4;thing price 5 keeps 1;");
        Check.none("best", -2, x::best);
        Check.none("worth", -2, n -> x.worth(n, 0));
        Check.none("thursday", -2, x::thursday);
        Check.none("made", -1000000, n -> x.made(n, 0, 0));
        Check.none("least", -2, n -> x.least(n, 0, 1));
        Check.none("most", -2, x::most);
        Check.none("keeping", -2, n -> x.keeping(n, 0));
        Check.none("enough", -2, x::enough);
        Check.none("cheapest", -2, x::cheapest);
        Check.none("buys", -2, n -> x.buys(n, 0));
        Check.none("crowd", -2, x::crowd);
    }
}
