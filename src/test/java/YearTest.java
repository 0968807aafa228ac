/** Promises 6 to 15, 19, 20, 36, 37 and 42 to 47: the year as it is, and other years. */
public final class YearTest {
    /**
     * PRICES 10 10 20 10 10. DAY 0: 4 offered, 2 asked. DAY 1: 2 offered, 4 asked: a lot,
     * in which seed 1 draws 16838, even: the two change places, buyer 1 gets both. DAY 2:
     * 3 offered, 2 asked. DAY 3: 1 offered, 2 asked: a lot of one. DAY 4: nothing.
     */
    static final String FAIR = "market days 5;thing price 10 keeps 1;was 0 on 2 20;old 0 on 4 30;"
        + "seller 0 has 4 asks 10;grows 0 on 2 3;"
        + "buyer 0 wants 2 pays 15 from 0 to 1 stores 0;buyer 0 wants 2 pays 20 from 1 to 3 stores 1;";

    private YearTest() {
    }

    public static void main(String[] args) {
        prices();
        fair();
        sellers();
        buyers();
        richness();
        oldestAndSellersInOrder();
        spoiling();
        freeSales();
        lotsGoOn();
        lotOfNothing();
        asking();
        holding();
        clearing();
        poverty();
        villages();
        chances();
        otherSeeds();
        Check.finish();
    }

    private static void prices() {
        Check.promise("promises 6 and 7");
        YearAgo x = Check.market("market days 4;thing price 5 keeps 1;thing price 6 keeps 1;"
            + "was 1 on 3 9;was 1 on 3 0;old 0 on 0 1;old 0 on 0 99;");
        for (int day = 0; day < 4; day++) {
            Check.due("price(0, " + day + ")", x.price(0, day), 5);
            Check.due("price(1, " + day + ")", x.price(1, day), day == 3 ? 0 : 6);
            Check.due("old(0, " + day + ")", x.old(0, day), day == 0 ? 99 : 5);
            Check.due("old(1, " + day + ")", x.old(1, day), 6);
        }
        int[][] none = {{2, 0}, {-1, 0}, {0, 4}, {0, -1}, {Integer.MAX_VALUE, 0}, {0, Integer.MIN_VALUE}};
        for (int[] at : none) {
            Check.due("price of none", x.price(at[0], at[1]), -2);
            Check.due("old of none", x.old(at[0], at[1]), -2);
            Check.due("offered of none", x.offered(at[0], at[1]), -2);
            Check.due("asked of none", x.asked(at[0], at[1]), -2);
            Check.due("sold of none", x.sold(at[0], at[1]), -2);
            Check.due("queue of none", x.queue(at[0], at[1]), -2);
            Check.due("spoils of none", x.spoils(at[0], at[1]), -2);
            Check.due("clears of none", x.clears(at[0], at[1]), -2);
        }
    }

    private static void fair() {
        Check.promise("promises 8 to 10, 36");
        YearAgo x = Check.market(FAIR);
        int[] offered = {4, 2, 3, 1, 0};
        int[] asked = {2, 4, 2, 2, 0};
        int[] sold = {2, 2, 2, 1, 0};
        int[] queue = {0, 2, 0, 1, 0};
        for (int day = 0; day < 5; day++) {
            Check.due("offered(0, " + day + ")", x.offered(0, day), offered[day]);
            Check.due("asked(0, " + day + ")", x.asked(0, day), asked[day]);
            Check.due("sold(0, " + day + ")", x.sold(0, day), sold[day]);
            Check.due("queue(0, " + day + ")", x.queue(0, day), queue[day]);
            Check.due("spoils(0, " + day + ")", x.spoils(0, day), 0);
        }
    }

    private static void sellers() {
        Check.promise("promises 11 to 13");
        YearAgo x = Check.market(FAIR);
        int[] whole = {90, 7, 0, 0, 2};
        for (int what = 0; what < 5; what++) {
            Check.due("seller(0, " + what + ")", x.seller(0, what), whole[what]);
        }
        Check.due("seller(0, 5)", x.seller(0, 5), -2);
        Check.due("seller(0, -1)", x.seller(0, -1), -2);
        Check.due("seller(1, 0)", x.seller(1, 0), -2);
        Check.due("seller(-1, 0)", x.seller(-1, 0), -2);
        int[] gets = {20, 20, 40, 10, 0};
        int[] stock = {2, 0, 1, 0, 0};
        for (int day = 0; day < 5; day++) {
            Check.due("gets(0, " + day + ")", x.gets(0, day), gets[day]);
            Check.due("stock(0, " + day + ")", x.stock(0, day), stock[day]);
        }
        Check.due("gets(0, 5)", x.gets(0, 5), -2);
        Check.due("gets(1, 0)", x.gets(1, 0), -2);
        Check.due("stock(0, -1)", x.stock(0, -1), -2);
        Check.due("stock(1, 0)", x.stock(1, 0), -2);
    }

    private static void buyers() {
        Check.promise("promise 14");
        YearAgo x = Check.market(FAIR);
        int[] first = {20, 2, 2, -2};
        int[] second = {70, 5, 1, -2};
        for (int what = 0; what < 4; what++) {
            Check.due("buyer(0, " + what + ")", x.buyer(0, what), first[what]);
            Check.due("buyer(1, " + what + ")", x.buyer(1, what), second[what]);
        }
        Check.due("buyer(2, 0)", x.buyer(2, 0), -2);
        Check.due("buyer(-1, 0)", x.buyer(-1, 0), -2);
        YearAgo dear = Check.market("market days 4;thing price 9 keeps 3;seller 0 has 50 asks 0;"
            + "buyer 0 wants 3 pays 8 from 0 to 3 stores 0;");
        Check.due("too dear, all four days", dear.buyer(0, 2), 12);
    }

    private static void richness() {
        Check.promise("promise 15");
        YearAgo x = Check.market(FAIR);
        int[] due = {2, 40, 1, 2, -2};
        for (int what = 0; what < 5; what++) {
            Check.due("rich(" + what + ")", x.rich(what), due[what]);
        }
        Check.due("rich(-1)", x.rich(-1), -2);
        Check.tell(x, "market days 4;thing price 5 keeps 0;thing price 5 keeps 3;was 1 on 2 4;"
            + "seller 0 has 1 asks 0;seller 1 has 5 asks 0;seller 1 has 2 asks 0;"
            + "buyer 0 wants 1 pays 9 from 0 to 0 stores 0;buyer 1 wants 6 pays 4 from 2 to 2 stores 0;");
        int[] then = {2, 24, 2, 0};
        for (int what = 0; what < 4; what++) {
            Check.due("of another market, rich(" + what + ")", x.rich(what), then[what]);
        }
        YearAgo still = Check.market("market days 7;");
        Check.due("nothing is sold", still.rich(0), -1);
        Check.due("how much", still.rich(1), 0);
        Check.due("days without a sale", still.rich(2), 7);
        Check.due("lots", still.rich(3), 0);
    }

    private static void oldestAndSellersInOrder() {
        Check.promise("II: seller 0 first, the oldest pieces");
        // Keeps 1. Seller 1 has 2 old pieces; on DAY 1 two more grow; 3 sold of both on DAY 1.
        YearAgo x = Check.market("market days 4;thing price 5 keeps 1;"
            + "seller 0 has 1 asks 0;seller 0 has 2 asks 5;seller 0 has 9 asks 6;grows 1 on 1 2;"
            + "buyer 0 wants 3 pays 5 from 1 to 1 stores 0;buyer 0 wants 9 pays 5 from 3 to 3 stores 0;");
        Check.due("seller 0 gets", x.gets(0, 1), 5);
        Check.due("seller 1 gets", x.gets(1, 1), 10);
        Check.due("seller 2, who asks more", x.gets(2, 1), 0);
        Check.due("the new pieces are left", x.stock(1, 2), 2);
        Check.due("so that none of his spoiled on DAY 2", x.seller(1, 2), 2);
        Check.due("spoils(0, 2)", x.spoils(0, 2), 9);
        Check.due("spoils(0, 3)", x.spoils(0, 3), 2);
        Check.due("offered(0, 1)", x.offered(0, 1), 5);
    }

    private static void spoiling() {
        Check.promise("promise 37 and what is left");
        YearAgo x = Check.market("market days 4;thing price 5 keeps 0;thing price 5 keeps 2;"
            + "seller 0 has 7 asks 0;grows 0 on 0 1;grows 0 on 0 2;grows 0 on 3 4;seller 1 has 3 asks 0;grows 1 on 1 6;");
        int[] first = {0, 9, 0, 0};
        int[] second = {0, 0, 0, 3};
        for (int day = 0; day < 4; day++) {
            Check.due("spoils(0, " + day + ")", x.spoils(0, day), first[day]);
            Check.due("spoils(1, " + day + ")", x.spoils(1, day), second[day]);
        }
        Check.due("a later grows strikes", x.offered(0, 0), 9);
        Check.due("stock(0, 0)", x.stock(0, 0), 9);
        Check.due("spoiled of seller 0", x.seller(0, 2), 9);
        Check.due("left of seller 0", x.seller(0, 3), 4);
        Check.due("spoiled of seller 1", x.seller(1, 2), 3);
        Check.due("left of seller 1", x.seller(1, 3), 6);
        Check.due("he gets nothing", x.seller(1, 4), -1);
    }

    private static void freeSales() {
        Check.promise("sales at a price of 0");
        YearAgo x = Check.market("market days 4;thing price 0 keeps 9;seller 0 has 2 asks 0;"
            + "buyer 0 wants 2 pays 0 from 2 to 2 stores 0;");
        Check.due("sold(0, 2)", x.sold(0, 2), 2);
        Check.due("he gets nothing", x.seller(0, 4), -1);
        Check.due("they get nothing", x.village(1, 0), -1);
        Check.due("something is sold", x.rich(0), 0);
        Check.due("days without a sale", x.rich(2), 3);
        Check.due("best", x.best(0), 0);
        Check.due("thursday", x.thursday(0), -1);
    }

    private static void lotsGoOn() {
        Check.promise("lots");
        // Three come to each of two things on each of two days; each time one gets his piece.
        String three = "wants 1 pays 9 from 0 to 1 stores 0;";
        YearAgo x = Check.market("market days 4;thing price 5 keeps 0;thing price 5 keeps 0;"
            + "seller 0 has 1 asks 0;grows 0 on 1 1;seller 1 has 1 asks 0;grows 1 on 1 1;"
            + ("buyer 0 " + three).repeat(3) + ("buyer 1 " + three).repeat(3));
        Check.due("lots", x.rich(3), 4);
        long seed = 1;
        int[] got = new int[6];
        for (int day = 0; day < 2; day++) {
            for (int thing = 0; thing < 2; thing++) {
                int[] order = {0, 1, 2};
                for (int place = 2; place >= 1; place--) {
                    seed = (1103515245L * seed + 12345L) % 2147483648L;
                    int other = (int) (seed / 65536L % (place + 1));
                    int here = order[place];
                    order[place] = order[other];
                    order[other] = here;
                }
                got[3 * thing + order[0]]++;
            }
        }
        for (int b = 0; b < 6; b++) {
            Check.due("buyer(" + b + ", 1)", x.buyer(b, 1), got[b]);
        }
    }

    private static void lotOfNothing() {
        Check.promise("a lot where nothing is offered");
        YearAgo x = Check.market("market days 4;thing price 5 keeps 0;buyer 0 wants 1 pays 5 from 1 to 2 stores 0;");
        Check.due("lots", x.rich(3), 2);
        Check.due("buyer(0, 2)", x.buyer(0, 2), 2);
    }

    private static void asking() {
        Check.promise("promise 19");
        YearAgo x = Check.market("market days 4;thing price 5 keeps 3;was 0 on 1 9;seller 0 has 2 asks 99;"
            + "buyer 0 wants 2 pays 9 from 0 to 1 stores 0;");
        Check.due("asks(0): he waits for DAY 1", x.asks(0), 6);
        Check.due("what he asks stays", x.hold(0, 99), 99);
        Check.due("all else stays", x.seller(0, 0), 0);
        Check.due("asks(1)", x.asks(1), -2);
        Check.due("asks(-1)", x.asks(-1), -2);
        Check.due("the least of several", Check.market(FAIR).asks(0), 0);
        YearAgo none = Check.market("market days 4;thing price 99 keeps 0;seller 0 has 1 asks 0;");
        Check.due("he gets nothing by any", none.asks(0), 0);
        YearAgo top = Check.market("market days 4;thing price 98 keeps 3;was 0 on 3 99;seller 0 has 1 asks 0;"
            + "buyer 0 wants 1 pays 99 from 0 to 3 stores 0;");
        Check.due("by 99", top.asks(0), 99);
    }

    private static void holding() {
        Check.promise("promise 20");
        YearAgo x = Check.market(FAIR);
        Check.due("what he gets ahead of it", x.seller(0, 0), 90);
        Check.due("hold(0, 11)", x.hold(0, 11), 10);
        int[] whole = {40, 2, 5, 0, 2};
        for (int what = 0; what < 5; what++) {
            Check.due("seller(0, " + what + ")", x.seller(0, what), whole[what]);
        }
        Check.due("spoils(0, 2)", x.spoils(0, 2), 4);
        Check.due("spoils(0, 4)", x.spoils(0, 4), 1);
        Check.due("hold(0, 100)", x.hold(0, 100), -2);
        Check.due("hold(0, -1)", x.hold(0, -1), -2);
        Check.due("hold(1, 5)", x.hold(1, 5), -2);
        Check.due("hold(0, 99)", x.hold(0, 99), 11);
        Check.due("hold(0, 0)", x.hold(0, 0), 99);
        Check.due("hold(0, 10)", x.hold(0, 10), 0);
        Check.due("what he gets then", x.seller(0, 0), 90);
    }

    private static void clearing() {
        Check.promise("promise 42");
        YearAgo x = Check.market(FAIR);
        int[] due = {-1, 20, -1, 20, 99};
        for (int day = 0; day < 5; day++) {
            Check.due("clears(0, " + day + ")", x.clears(0, day), due[day]);
        }
        YearAgo ends = Check.market("market days 4;thing price 99 keeps 9;seller 0 has 1 asks 0;"
            + "buyer 0 wants 1 pays 0 from 0 to 0 stores 0;buyer 0 wants 9 pays 99 from 1 to 1 stores 0;");
        Check.due("by 0 alone", ends.clears(0, 0), 0);
        Check.due("by 99 too", ends.clears(0, 1), 99);
    }

    private static void poverty() {
        Check.promise("promise 43");
        YearAgo x = Check.market(FAIR);
        Check.due("poor(0): the lot is against him", x.poor(0), -1);
        Check.due("poor(1): one piece is there", x.poor(1), -1);
        Check.due("poor(2)", x.poor(2), -2);
        Check.due("poor(-1)", x.poor(-1), -2);
        Check.due("what he pays stays", x.come(0, 1, 15), 2);
        YearAgo rich = Check.market("market days 4;thing price 5 keeps 3;was 0 on 2 8;was 0 on 3 50;seller 0 has 9 asks 0;"
            + "buyer 0 wants 3 pays 0 from 0 to 2 stores 0;");
        Check.due("the dearest of his days", rich.poor(0), 8);
        Check.due("he still gets nothing", rich.buyer(0, 1), 0);
        YearAgo free = Check.market("market days 4;thing price 0 keeps 3;seller 0 has 9 asks 0;"
            + "buyer 0 wants 3 pays 50 from 0 to 2 stores 0;");
        Check.due("by nothing", free.poor(0), 0);
    }

    private static void villages() {
        Check.promise("promise 44");
        YearAgo x = Check.market("market days 4;thing price 5 keeps 3;thing price 7 keeps 3;was 1 on 3 8;"
            + "seller 0 has 9 asks 0;seller 1 has 9 asks 0;seller 1 has 9 asks 9;"
            + "buyer 0 wants 2 pays 5 from 1 to 2 stores 0;buyer 1 wants 1 pays 9 from 2 to 3 stores 0;");
        // Seller 0: 0 10 10 0; seller 1: 0 0 7 8; seller 2: nothing.
        int[][] due = {{-1, 0, 0}, {1, 10, 20}, {3, 8, 15}, {2, 17, 35}, {-1, 0, 0}, {1, 10, 20}, {3, 8, 15}, {2, 17, 35}};
        for (int set = 0; set < 8; set++) {
            for (int what = 0; what < 3; what++) {
                Check.due("village(" + set + ", " + what + ")", x.village(set, what), due[set][what]);
            }
        }
        Check.due("village(8, 0)", x.village(8, 0), -2);
        Check.due("village(-1, 0)", x.village(-1, 0), -2);
        Check.due("village(1, 3)", x.village(1, 3), -2);
        Check.due("village(1, -1)", x.village(1, -1), -2);
        YearAgo five = Check.market("market days 4;thing price 5 keeps 0;" + "seller 0 has 1 asks 0;".repeat(5)
            + "buyer 0 wants 5 pays 9 from 0 to 0 stores 0;");
        Check.due("village(31, 2)", five.village(31, 2), 25);
        Check.due("village(32, 2)", five.village(32, 2), -2);
    }

    private static void chances() {
        Check.promise("promise 45");
        YearAgo x = Check.market(FAIR);
        int[][] due = {{0, 0, 1, 1}, {0, 1, 1, 2}, {1, 1, 1, 2}, {0, 2, 0, 1}, {1, 3, 0, 1}, {1, 2, 1, 1}, {1, 4, 0, 1}};
        for (int[] at : due) {
            Check.due("chance above of " + at[0] + " on " + at[1], x.chance(at[0], at[1], 0), at[2]);
            Check.due("chance below of " + at[0] + " on " + at[1], x.chance(at[0], at[1], 1), at[3]);
        }
        Check.due("chance(2, 0, 0)", x.chance(2, 0, 0), -2);
        Check.due("chance(-1, 0, 0)", x.chance(-1, 0, 0), -2);
        Check.due("chance(0, 5, 0)", x.chance(0, 5, 0), -2);
        Check.due("chance(0, -1, 0)", x.chance(0, -1, 0), -2);
        Check.due("chance(0, 0, 2)", x.chance(0, 0, 2), -2);
        Check.due("chance(0, 0, -1)", x.chance(0, 0, -1), -2);
        // Offered 4; wants 1, 2, 3. He of 1: first, or behind 2 or behind 3 (together 5): 4 of 6.
        // He of 2: first, or behind 1: 3 of 6. He of 3: first, or behind 1: 3 of 6.
        String three = " pays 9 from 0 to 0 stores 0;";
        YearAgo y = Check.market("market days 4;thing price 5 keeps 0;seller 0 has 4 asks 0;"
            + "buyer 0 wants 1" + three + "buyer 0 wants 2" + three + "buyer 0 wants 3" + three);
        Check.due("of 1, above", y.chance(0, 0, 0), 2);
        Check.due("of 1, below", y.chance(0, 0, 1), 3);
        Check.due("of 2, above", y.chance(1, 0, 0), 1);
        Check.due("of 2, below", y.chance(1, 0, 1), 2);
        Check.due("of 3, above", y.chance(2, 0, 0), 1);
        Check.due("of 3, below", y.chance(2, 0, 1), 2);
        YearAgo seven = Check.market("market days 4;thing price 5 keeps 0;seller 0 has 3 asks 0;"
            + ("buyer 0 wants 1" + three).repeat(7));
        Check.due("3 of 7, above", seven.chance(6, 0, 0), 3);
        Check.due("3 of 7, below", seven.chance(6, 0, 1), 7);
    }

    private static void otherSeeds() {
        Check.promise("promises 46 and 47");
        YearAgo x = Check.market(FAIR);
        // Draws of 2 from seeds 0, 1, 2: 0, 16838, 908, even; from 3: 17747, odd.
        int[] first = {2, 2, 2, 4};
        int[] second = {5, 5, 5, 3};
        for (int seed = 0; seed < 4; seed++) {
            Check.due("lots(" + seed + ", 0)", x.lots(seed, 0), first[seed]);
            Check.due("lots(" + seed + ", 1)", x.lots(seed, 1), second[seed]);
        }
        Check.due("the year as it is stays", x.buyer(0, 1), 2);
        Check.due("years(1, 3, 0)", x.years(1, 3, 0), 8);
        Check.due("years(0, 4, 1)", x.years(0, 4, 1), 18);
        Check.due("years(3, 1, 0)", x.years(3, 1, 0), 4);
        int sum = 0;
        for (int i = 0; i < 20; i++) {
            sum += x.lots(100 + i, 0);
        }
        Check.due("years(100, 20, 0)", x.years(100, 20, 0), sum);
        Check.due("lots(2000000000, 0) is one of two", Math.abs(x.lots(2000000000, 0) - 3), 1);
        Check.due("lots(2000000001, 0)", x.lots(2000000001, 0), -2);
        Check.due("lots(-1, 0)", x.lots(-1, 0), -2);
        Check.due("lots(1, 2)", x.lots(1, 2), -2);
        Check.due("lots(1, -1)", x.lots(1, -1), -2);
        Check.due("years(1, 0, 0)", x.years(1, 0, 0), -2);
        Check.due("years(1, 21, 0)", x.years(1, 21, 0), -2);
        Check.due("years(-1, 1, 0)", x.years(-1, 1, 0), -2);
        Check.due("years(2000000001, 1, 0)", x.years(2000000001, 1, 0), -2);
        Check.due("years(1, 1, 2)", x.years(1, 1, 2), -2);
    }
}
