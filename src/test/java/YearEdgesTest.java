import java.math.BigInteger;

/** The edges that 'Terms' II and VI and promises 6 to 15, 19, 20, 36, 37 and 42 to 47 name. */
public final class YearEdgesTest {
    private static final BigInteger TIMES = BigInteger.valueOf(1103515245);
    private static final BigInteger MORE = BigInteger.valueOf(12345);
    private static final BigInteger ROUND = new BigInteger("2147483648");

    private YearEdgesTest() {
    }

    public static void main(String[] args) {
        asksNoMore();
        paysSoMuch();
        hisDays();
        askedAgainstOffered();
        tooOld();
        growing();
        sellerZeroFirst();
        oldestFirst();
        eachAsMuchAsThereIs();
        lotsFromSeeds();
        lotsGoOn();
        lotsThatDrawNothing();
        seedsWrapAround();
        thingsAndDays();
        sellersAndTheirWhats();
        buyersAndTheirWhats();
        marketsOfNothing();
        gettingNothing();
        firstOfSeveral();
        richEdges();
        asksEdges();
        holdEdges();
        queueEdges();
        spoilsOfAll();
        clearsEdges();
        poorEdges();
        villageEdges();
        chanceEdges();
        yearsEdges();
        yearAnew();
        Check.finish();
    }

    private static String buyer(int thing, int wants, int pays, int from, int to) {
        return "buyer " + thing + " wants " + wants + " pays " + pays + " from " + from + " to " + to + " stores 0;";
    }

    // ---- 'Terms' II ----

    private static void asksNoMore() {
        Check.promise("Terms II: OFFERED are the pieces of SELLERS who ask no more than the PRICE");
        for (int price : new int[] {0, 1, 50, 98, 99}) {
            for (int asks = Math.max(0, price - 1); asks <= Math.min(99, price + 1); asks++) {
                YearAgo x = Check.market("market days 4;thing price " + price + " keeps 9;seller 0 has 3 asks " + asks + ";"
                    + buyer(0, 2, 99, 0, 0));
                String of = " at " + price + ", asked " + asks;
                Check.due("offered(0, 0)" + of, x.offered(0, 0), asks <= price ? 3 : 0);
                Check.due("sold(0, 0)" + of, x.sold(0, 0), asks <= price ? 2 : 0);
                Check.due("stock(0, 0)" + of, x.stock(0, 0), asks <= price ? 1 : 3);
            }
        }
    }

    private static void paysSoMuch() {
        Check.promise("Terms II: BUYERS who pay so much");
        for (int price : new int[] {0, 1, 50, 98, 99}) {
            for (int pays = Math.max(0, price - 1); pays <= Math.min(99, price + 1); pays++) {
                YearAgo x = Check.market("market days 4;thing price " + price + " keeps 9;seller 0 has 3 asks 0;"
                    + buyer(0, 2, pays, 0, 0));
                String of = " at " + price + ", paid " + pays;
                Check.due("asked(0, 0)" + of, x.asked(0, 0), pays >= price ? 2 : 0);
                Check.due("sold(0, 0)" + of, x.sold(0, 0), pays >= price ? 2 : 0);
                Check.due("buyer(0, 0)" + of, x.buyer(0, 0), pays >= price ? 2 * price : 0);
                Check.due("buyer(0, 2)" + of, x.buyer(0, 2), pays >= price ? 0 : 2);
                Check.due("come(0, 0, price)" + of, x.come(0, 0, price), pays >= price ? 1 : 0);
            }
        }
    }

    private static void hisDays() {
        Check.promise("Terms II: BUYERS whose DAY it is");
        for (int from = 0; from < 4; from++) {
            for (int to = from; to < 4; to++) {
                YearAgo x = Check.market("market days 4;thing price 5 keeps 9;thing price 5 keeps 9;seller 0 has 99 asks 0;"
                    + buyer(0, 2, 5, from, to));
                for (int day = 0; day < 4; day++) {
                    boolean his = from <= day && day <= to;
                    Check.due("asked(0, " + day + ") from " + from + " to " + to, x.asked(0, day), his ? 2 : 0);
                    Check.due("sold(0, " + day + ") from " + from + " to " + to, x.sold(0, day), his ? 2 : 0);
                    Check.due("asked(1, " + day + ")", x.asked(1, day), 0);
                }
                Check.due("buyer(0, 1)", x.buyer(0, 1), 2 * (to - from + 1));
            }
        }
    }

    private static void askedAgainstOffered() {
        Check.promise("Terms II: no more ASKED than OFFERED, else a LOT");
        for (int stock = 0; stock <= 4; stock++) {
            for (int wants = 1; wants <= 5; wants++) {
                YearAgo x = Check.market("market days 4;thing price 5 keeps 0;seller 0 has " + stock + " asks 0;" + buyer(0, wants, 5, 0, 0));
                String of = " of " + stock + ", wanted " + wants;
                Check.due("sold" + of, x.sold(0, 0), Math.min(stock, wants));
                Check.due("lots" + of, x.rich(3), wants > stock ? 1 : 0);
                Check.due("queue" + of, x.queue(0, 0), wants > stock ? wants - stock : 0);
                Check.due("not got" + of, x.buyer(0, 2), wants > stock ? wants - stock : 0);
                Check.due("days without a sale" + of, x.rich(2), stock > 0 ? 3 : 4);
            }
        }
        YearAgo still = Check.market("market days 4;thing price 5 keeps 0;");
        Check.due("nothing ASKED, nothing OFFERED: no LOT", still.rich(3), 0);
    }

    private static void tooOld() {
        Check.promise("Terms I, II: keeps: of the DAY on which it comes and so many behind");
        for (int keeps : new int[] {0, 1, 2, 3, 4, 5, 30}) {
            YearAgo x = Check.market("market days 5;thing price 5 keeps " + keeps + ";seller 0 has 7 asks 0;");
            for (int day = 0; day < 5; day++) {
                String of = "(0, " + day + ") of what keeps " + keeps;
                Check.due("offered" + of, x.offered(0, day), day <= keeps ? 7 : 0);
                Check.due("spoils" + of, x.spoils(0, day), day == keeps + 1 ? 7 : 0);
                Check.due("stock" + of, x.stock(0, day), day <= keeps ? 7 : 0);
            }
            Check.due("spoiled", x.seller(0, 2), keeps < 4 ? 7 : 0);
            Check.due("left, spoiled pieces aside", x.seller(0, 3), keeps < 4 ? 0 : 7);
            for (int day = 0; day < 5; day++) {
                YearAgo y = Check.market("market days 5;thing price 5 keeps " + keeps + ";seller 0 has 7 asks 0;" + buyer(0, 3, 5, day, day));
                Check.due("sold on DAY " + day + " of what keeps " + keeps, y.sold(0, day), day <= keeps ? 3 : 0);
            }
        }
        YearAgo last = Check.market("market days 20;thing price 5 keeps 18;thing price 5 keeps 19;"
            + "seller 0 has 1 asks 0;seller 1 has 1 asks 0;");
        Check.due("spoiled on the last DAY", last.spoils(0, 19), 1);
        Check.due("left on the last DAY", last.seller(1, 3), 1);
    }

    private static void growing() {
        Check.promise("Terms II: what grows from that DAY on");
        for (int day = 0; day < 5; day++) {
            YearAgo x = Check.market("market days 5;thing price 5 keeps 1;seller 0 has 0 asks 0;grows 0 on " + day + " 4;");
            for (int d = 0; d < 5; d++) {
                Check.due("offered(0, " + d + ") of what grows on " + day, x.offered(0, d), d == day || d == day + 1 ? 4 : 0);
                Check.due("spoils(0, " + d + ") of what grows on " + day, x.spoils(0, d), d == day + 2 ? 4 : 0);
            }
            Check.due("left", x.seller(0, 3), day >= 3 ? 4 : 0);
            Check.due("spoiled", x.seller(0, 2), day >= 3 ? 0 : 4);
        }
        YearAgo both = Check.market("market days 4;thing price 5 keeps 0;seller 0 has 99 asks 0;grows 0 on 0 99;");
        Check.due("stock and what grows on DAY 0", both.offered(0, 0), 198);
        Check.due("all spoiled", both.spoils(0, 1), 198);
    }

    private static void sellerZeroFirst() {
        Check.promise("Terms II: of SELLER 0 first, then 1, ..");
        for (int wants = 1; wants <= 9; wants++) {
            YearAgo x = Check.market("market days 4;thing price 5 keeps 3;thing price 5 keeps 3;seller 0 has 2 asks 5;seller 1 has 9 asks 0;"
                + "seller 0 has 9 asks 6;seller 0 has 3 asks 0;" + buyer(0, wants, 5, 1, 1));
            Check.due("seller 0, of " + wants, x.seller(0, 1), Math.min(2, wants));
            Check.due("seller 3, of " + wants, x.seller(3, 1), Math.max(0, Math.min(3, wants - 2)));
            Check.due("seller 1, of another thing", x.seller(1, 1), 0);
            Check.due("seller 2, who asks more", x.seller(2, 1), 0);
            Check.due("each brings the PRICE", x.gets(3, 1), 5 * x.seller(3, 1));
            Check.due("stock of seller 0", x.stock(0, 1), 2 - Math.min(2, wants));
        }
    }

    private static void oldestFirst() {
        Check.promise("Terms II: of each the oldest pieces");
        for (int wants = 1; wants <= 9; wants++) {
            YearAgo x = Check.market("market days 4;thing price 5 keeps 1;seller 0 has 3 asks 0;grows 0 on 1 3;" + buyer(0, wants, 5, 1, 1));
            int old = Math.max(0, 3 - wants);
            int fresh = Math.min(3, Math.max(0, 6 - wants));
            Check.due("spoiled of the old, sold " + wants, x.spoils(0, 2), old);
            Check.due("spoiled of the new, sold " + wants, x.spoils(0, 3), fresh);
            Check.due("stock(0, 1), sold " + wants, x.stock(0, 1), old + fresh);
        }
    }

    // ---- LOTS ----

    private static int draw(BigInteger[] x, int n) {
        x[0] = TIMES.multiply(x[0]).add(MORE).mod(ROUND);
        return x[0].divide(BigInteger.valueOf(65536)).mod(BigInteger.valueOf(n)).intValueExact();
    }

    private static int[] mixed(BigInteger[] x, int... order) {
        for (int place = order.length - 1; place >= 1; place--) {
            int other = draw(x, place + 1);
            int here = order[place];
            order[place] = order[other];
            order[other] = here;
        }
        return order;
    }

    private static BigInteger[] from(int seed) {
        return new BigInteger[] {BigInteger.valueOf(seed)};
    }

    private static void eachAsMuchAsThereIs() {
        Check.promise("LOT: each gets as much as he wants and there still is");
        for (int stock = 0; stock <= 28; stock++) {
            StringBuilder text = new StringBuilder("market days 4;thing price 5 keeps 0;seller 0 has " + stock + " asks 0;");
            for (int b = 0; b < 7; b++) {
                text.append(buyer(0, b + 1, 5, 0, 0));
            }
            YearAgo x = Check.market(text.toString());
            int[] order = mixed(from(1), 0, 1, 2, 3, 4, 5, 6);
            int still = stock;
            for (int b : order) {
                int got = Math.min(still, b + 1);
                still -= got;
                Check.due("buyer(" + b + ", 1) of " + stock, x.buyer(b, 1), stock == 28 ? b + 1 : got);
                Check.due("buyer(" + b + ", 2) of " + stock, x.buyer(b, 2), b + 1 - x.buyer(b, 1));
                Check.due("buyer(" + b + ", 0) of " + stock, x.buyer(b, 0), 5 * x.buyer(b, 1));
            }
            Check.due("lots of " + stock, x.rich(3), stock < 28 ? 1 : 0);
        }
    }

    private static void lotsFromSeeds() {
        Check.promise("promise 46: a LOT of one piece, by its seed");
        for (int many = 2; many <= 7; many++) {
            YearAgo x = Check.market("market days 4;thing price 5 keeps 0;seller 0 has 1 asks 0;" + buyer(0, 1, 5, 0, 0).repeat(many));
            for (int seed : new int[] {0, 1, 2, 3, 65535, 65536, 1999999999, 2000000000}) {
                int[] order = {0, 1, 2, 3, 4, 5, 6};
                int first = mixed(from(seed), java.util.Arrays.copyOf(order, many))[0];
                for (int b = 0; b < many; b++) {
                    Check.due("lots(" + seed + ", " + b + ") of " + many, x.lots(seed, b), b == first ? 1 : 0);
                }
            }
            Check.due("the seed as it is is 1", x.buyer(mixed(from(1), java.util.Arrays.copyOf(new int[] {0, 1, 2, 3, 4, 5, 6}, many))[0], 1), 1);
        }
    }

    private static void lotsGoOn() {
        Check.promise("LOT: x goes on from LOT to LOT through the YEAR");
        String comers = buyer(0, 1, 9, 0, 3).repeat(3) + buyer(1, 1, 9, 0, 3).repeat(4);
        StringBuilder text = new StringBuilder("market days 4;thing price 5 keeps 0;thing price 5 keeps 0;seller 0 has 1 asks 0;seller 1 has 1 asks 0;");
        for (int day = 1; day < 4; day++) {
            text.append("grows 0 on ").append(day).append(" 1;grows 1 on ").append(day).append(" 1;");
        }
        YearAgo x = Check.market(text + comers);
        for (int seed : new int[] {1, 2, 2000000000}) {
            int[] got = new int[7];
            BigInteger[] of = from(seed);
            for (int day = 0; day < 4; day++) {
                got[mixed(of, 0, 1, 2)[0]]++;
                got[mixed(of, 3, 4, 5, 6)[0]]++;
            }
            for (int b = 0; b < 7; b++) {
                Check.due("lots(" + seed + ", " + b + ")", x.lots(seed, b), got[b]);
                if (seed == 1) {
                    Check.due("buyer(" + b + ", 1)", x.buyer(b, 1), got[b]);
                }
            }
        }
        Check.due("lots", x.rich(3), 8);
    }

    /** A LOT of one takes no draw, nor what is no LOT: the LOT behind them is as the first. */
    private static void lotsThatDrawNothing() {
        Check.promise("LOT: a draw for each place down to the second alone");
        String[] ahead = {"", "seller 0 has 1 asks 0;" + buyer(0, 2, 5, 0, 0), buyer(0, 2, 5, 0, 0),
            "seller 0 has 9 asks 0;" + buyer(0, 2, 5, 0, 0).repeat(4), buyer(0, 2, 4, 0, 0).repeat(4)};
        for (String first : ahead) {
            int before = (first.length() - first.replace("buyer", "").length()) / 5;
            YearAgo x = Check.market("market days 4;thing price 5 keeps 3;thing price 5 keeps 3;" + first
                + "seller 1 has 1 asks 0;" + buyer(1, 1, 5, 0, 0).repeat(3));
            int winner = mixed(from(1), 0, 1, 2)[0];
            for (int b = 0; b < 3; b++) {
                Check.due("buyer " + b + " behind '" + first + "'", x.buyer(before + b, 1), b == winner ? 1 : 0);
            }
        }
        // Two come to nothing OFFERED: a LOT, and one draw.
        YearAgo x = Check.market("market days 4;thing price 5 keeps 3;thing price 5 keeps 3;" + buyer(0, 1, 5, 0, 0).repeat(2)
            + "seller 1 has 1 asks 0;" + buyer(1, 1, 5, 0, 0).repeat(3));
        BigInteger[] of = from(1);
        draw(of, 2);
        int winner = mixed(of, 0, 1, 2)[0];
        for (int b = 0; b < 3; b++) {
            Check.due("buyer " + b + " behind a LOT of nothing", x.buyer(2 + b, 1), b == winner ? 1 : 0);
        }
        Check.due("lots", x.rich(3), 2);
    }

    private static void seedsWrapAround() {
        Check.promise("Terms VI: modulo 2,147,483,648");
        YearAgo x = Check.market("market days 20;thing price 5 keeps 0;seller 0 has 1 asks 0;" + grows20() + buyer(0, 1, 5, 0, 19).repeat(7));
        for (int seed : new int[] {0, 1, 2000000000, 1073741824}) {
            int[] got = new int[7];
            BigInteger[] of = from(seed);
            for (int day = 0; day < 20; day++) {
                got[mixed(of, 0, 1, 2, 3, 4, 5, 6)[0]]++;
            }
            for (int b = 0; b < 7; b++) {
                Check.due("lots(" + seed + ", " + b + "), 120 draws", x.lots(seed, b), got[b]);
            }
        }
    }

    private static String grows20() {
        StringBuilder s = new StringBuilder();
        for (int day = 1; day < 20; day++) {
            s.append("grows 0 on ").append(day).append(" 1;");
        }
        return s.toString();
    }

    // ---- what is refused ----

    private static void thingsAndDays() {
        Check.promise("promises 6 to 10, 36, 37, 42: -2, there are none such");
        String[] texts = {YearTest.FAIR, ExtremesTest.greatest()};
        for (String text : texts) {
            YearAgo x = Check.market(text);
            int t = x.count(1) - 1;
            int d = x.count(0) - 1;
            Check.edges("price thing", 0, t, -2, n -> x.price(n, d));
            Check.edges("price day", 0, d, -2, n -> x.price(t, n));
            Check.edges("old thing", 0, t, -2, n -> x.old(n, d));
            Check.edges("old day", 0, d, -2, n -> x.old(t, n));
            Check.edges("offered thing", 0, t, -2, n -> x.offered(n, d));
            Check.edges("offered day", 0, d, -2, n -> x.offered(t, n));
            Check.edges("asked thing", 0, t, -2, n -> x.asked(n, d));
            Check.edges("asked day", 0, d, -2, n -> x.asked(t, n));
            Check.edges("sold thing", 0, t, -2, n -> x.sold(n, d));
            Check.edges("sold day", 0, d, -2, n -> x.sold(t, n));
            Check.edges("queue thing", 0, t, -2, n -> x.queue(n, d));
            Check.edges("queue day", 0, d, -2, n -> x.queue(t, n));
            Check.edges("spoils thing", 0, t, -2, n -> x.spoils(n, d));
            Check.edges("spoils day", 0, d, -2, n -> x.spoils(t, n));
            Check.edges("clears thing", 0, t, -2, n -> x.clears(n, d));
            Check.edges("clears day", 0, d, -2, n -> x.clears(t, n));
        }
    }

    private static void sellersAndTheirWhats() {
        Check.promise("promises 11 to 13, 15, 19, 20, 44: -2, there are none such");
        String[] texts = {YearTest.FAIR, ExtremesTest.greatest()};
        for (String text : texts) {
            YearAgo x = Check.market(text);
            int s = x.count(2) - 1;
            int d = x.count(0) - 1;
            Check.edges("seller", 0, s, -2, n -> x.seller(n, 0));
            Check.edges("seller what", 0, 4, -2, n -> x.seller(s, n));
            Check.edges("gets", 0, s, -2, n -> x.gets(n, d));
            Check.edges("gets day", 0, d, -2, n -> x.gets(s, n));
            Check.edges("stock", 0, s, -2, n -> x.stock(n, d));
            Check.edges("stock day", 0, d, -2, n -> x.stock(s, n));
            Check.edges("rich what", 0, 3, -2, x::rich);
            Check.edges("asks", 0, s, -2, x::asks);
            Check.edges("village set", 0, (2 << s) - 1, -2, n -> x.village(n, 2));
            Check.edges("village what", 0, 2, -2, n -> x.village((2 << s) - 1, n));
            Check.edges("hold", 0, s, -2, n -> x.hold(n, 5));
            Check.edges("hold n", 0, 99, -2, n -> x.hold(s, n));
            YearAgo y = Check.market(text);
            long[] before = Check.state(y);
            for (int[] bad : new int[][] {{-1, 5}, {s + 1, 5}, {s, -1}, {s, 100}, {0, -1}, {0, 100}}) {
                Check.due("hold(" + bad[0] + ", " + bad[1] + ")", y.hold(bad[0], bad[1]), -2);
            }
            Check.stays("hold", y, before);
        }
    }

    private static void buyersAndTheirWhats() {
        Check.promise("promises 14, 43, 45 to 47: -2, there are none such");
        String[] texts = {YearTest.FAIR, ExtremesTest.greatest()};
        for (String text : texts) {
            YearAgo x = Check.market(text);
            int b = x.count(3) - 1;
            int d = x.count(0) - 1;
            long[] before = Check.state(x);
            Check.edges("buyer", 0, b, -2, n -> x.buyer(n, 0));
            Check.edges("buyer what", 0, 2, -2, n -> x.buyer(b, n));
            Check.edges("poor", 0, b, -2, x::poor);
            Check.edges("chance", 0, b, -2, n -> x.chance(n, d, 0));
            Check.edges("chance day", 0, d, -2, n -> x.chance(b, n, 0));
            Check.edges("chance what", 0, 1, -2, n -> x.chance(b, d, n));
            Check.edges("lots seed", 0, 2000000000, -2, n -> x.lots(n, b));
            Check.edges("lots", 0, b, -2, n -> x.lots(1, n));
            Check.edges("years seed", 0, 2000000000, -2, n -> x.years(n, 1, b));
            Check.edges("years n", 1, 20, -2, n -> x.years(1, n, b));
            Check.edges("years", 0, b, -2, n -> x.years(1, 1, n));
            Check.stays("what asks alone", x, before);
        }
    }

    private static void marketsOfNothing() {
        Check.promise("a MARKET without THINGS, without SELLERS, without BUYERS");
        YearAgo head = Check.market("market days 4;");
        YearAgo things = Check.market("market days 4;thing price 5 keeps 1;");
        Check.none("price", -2, n -> head.price(n, 0));
        Check.none("offered", -2, n -> head.offered(n, 0));
        Check.none("clears", -2, n -> head.clears(n, 0));
        for (YearAgo x : new YearAgo[] {head, things}) {
            Check.none("seller", -2, n -> x.seller(n, 0));
            Check.none("gets", -2, n -> x.gets(n, 0));
            Check.none("stock", -2, n -> x.stock(n, 0));
            Check.none("asks", -2, x::asks);
            Check.none("hold", -2, n -> x.hold(n, 5));
            Check.none("buyer", -2, n -> x.buyer(n, 0));
            Check.none("poor", -2, x::poor);
            Check.none("chance", -2, n -> x.chance(n, 0, 0));
            Check.none("lots", -2, n -> x.lots(1, n));
            Check.none("years", -2, n -> x.years(1, 1, n));
            Check.due("rich(0)", x.rich(0), -1);
            Check.due("rich(1)", x.rich(1), 0);
            Check.due("rich(2)", x.rich(2), 4);
            Check.due("rich(3)", x.rich(3), 0);
            Check.due("village(0, 0)", x.village(0, 0), -1);
            Check.due("village(0, 1)", x.village(0, 1), 0);
            Check.due("village(0, 2)", x.village(0, 2), 0);
            Check.due("village(1, 2)", x.village(1, 2), -2);
        }
        Check.due("offered(0, 3) of nobody", things.offered(0, 3), 0);
        Check.due("asked(0, 3) of nobody", things.asked(0, 3), 0);
        Check.due("sold(0, 3) of nobody", things.sold(0, 3), 0);
        Check.due("clears(0, 3) of nobody", things.clears(0, 3), 99);
        YearAgo none = new YearAgo();
        Check.none("rich without a MARKET", -2, none::rich);
        Check.none("village without a MARKET", -2, n -> none.village(n, 2));
    }

    // ---- answers at their edges ----

    private static void gettingNothing() {
        Check.promise("promises 11, 15, 44: NONE");
        String market = "market days 4;thing price 0 keeps 3;was 0 on 3 1;seller 0 has 2 asks 0;";
        YearAgo none = Check.market(market);
        Check.due("nothing is SOLD: rich(0)", none.rich(0), -1);
        Check.due("rich(1)", none.rich(1), 0);
        Check.due("seller(0, 4)", none.seller(0, 4), -1);
        Check.due("village(1, 0)", none.village(1, 0), -1);
        Check.due("village(1, 1)", none.village(1, 1), 0);
        YearAgo free = Check.market(market + buyer(0, 1, 0, 2, 2));
        Check.due("SOLD for nothing: rich(0)", free.rich(0), 0);
        Check.due("rich(1)", free.rich(1), 0);
        Check.due("rich(2)", free.rich(2), 3);
        Check.due("he gets nothing: seller(0, 4)", free.seller(0, 4), -1);
        Check.due("village(1, 0)", free.village(1, 0), -1);
        YearAgo one = Check.market(market + buyer(0, 1, 1, 3, 3));
        Check.due("one piece for 1: rich(0)", one.rich(0), 3);
        Check.due("rich(1)", one.rich(1), 1);
        Check.due("seller(0, 4)", one.seller(0, 4), 3);
        Check.due("village(1, 0)", one.village(1, 0), 3);
        Check.due("village(1, 2)", one.village(1, 2), 1);
    }

    private static void firstOfSeveral() {
        Check.promise("promises 11, 15, 44: the first of several");
        YearAgo x = Check.market("market days 5;thing price 6 keeps 4;thing price 3 keeps 4;seller 0 has 9 asks 0;seller 1 has 9 asks 0;"
            + buyer(0, 1, 9, 1, 1) + buyer(1, 2, 9, 2, 2) + buyer(0, 1, 9, 3, 3) + buyer(1, 2, 9, 4, 4));
        Check.due("seller(0, 4)", x.seller(0, 4), 1);
        Check.due("seller(1, 4)", x.seller(1, 4), 2);
        Check.due("rich(0)", x.rich(0), 1);
        Check.due("rich(1)", x.rich(1), 6);
        Check.due("rich(2)", x.rich(2), 1);
        Check.due("village(1, 0)", x.village(1, 0), 1);
        Check.due("village(2, 0)", x.village(2, 0), 2);
        Check.due("village(3, 0)", x.village(3, 0), 1);
        YearAgo ends = Check.market("market days 4;thing price 6 keeps 4;seller 0 has 9 asks 0;" + buyer(0, 1, 9, 0, 0) + buyer(0, 1, 9, 3, 3));
        Check.due("DAY 0 ahead of the last", ends.rich(0), 0);
        Check.due("seller(0, 4)", ends.seller(0, 4), 0);
        YearAgo last = Check.market("market days 4;thing price 6 keeps 4;seller 0 has 9 asks 0;" + buyer(0, 1, 9, 0, 0) + buyer(0, 2, 9, 3, 3));
        Check.due("the last alone", last.rich(0), 3);
        Check.due("seller(0, 4) then", last.seller(0, 4), 3);
    }

    private static void richEdges() {
        Check.promise("promise 15: SELLERS together");
        YearAgo x = Check.market("market days 4;thing price 5 keeps 3;thing price 4 keeps 3;was 0 on 0 7;was 0 on 1 6;was 1 on 2 3;"
            + "seller 0 has 9 asks 0;seller 1 has 9 asks 0;" + buyer(0, 1, 9, 0, 2) + buyer(1, 1, 9, 1, 3));
        // Seller 0: 7 6 5 0, seller 1: 0 4 3 4.
        int[] due = {1, 10, 0, 0};
        for (int what = 0; what < 4; what++) {
            Check.due("rich(" + what + ")", x.rich(what), due[what]);
        }
        Check.due("seller(0, 4)", x.seller(0, 4), 0);
        Check.due("seller(1, 4)", x.seller(1, 4), 1);
        YearAgo full = Check.market("market days 20;thing price 99 keeps 0;seller 0 has 99 asks 99;" + buyer(0, 9, 99, 0, 0).repeat(7));
        Check.due("as much as can be on a DAY of one thing", full.rich(1), 63 * 99);
        Check.due("days without a sale", full.rich(2), 19);
    }

    private static void asksEdges() {
        Check.promise("promise 19: 0 .. 99, the least of several");
        // One piece, PRICES 1 .. on the DAYS, all come on all DAYS: he waits for the dearest.
        int[][] prices = {{0, 0, 0, 0}, {1, 0, 0, 0}, {0, 1, 0, 0}, {97, 98, 0, 99}, {99, 98, 97, 0}, {98, 99, 99, 98}, {5, 5, 5, 5}, {5, 9, 9, 9}, {9, 9, 9, 5}};
        int[] due = {0, 0, 1, 99, 0, 99, 0, 6, 0};
        for (int i = 0; i < prices.length; i++) {
            StringBuilder text = new StringBuilder("market days 4;thing price 0 keeps 9;");
            for (int day = 0; day < 4; day++) {
                text.append("was 0 on ").append(day).append(' ').append(prices[i][day]).append(';');
            }
            YearAgo x = Check.market(text + "seller 0 has 1 asks 50;" + buyer(0, 1, 99, 0, 3));
            long[] before = Check.state(x);
            Check.due("asks(0) by PRICES " + i, x.asks(0), due[i]);
            Check.stays("asks", x, before);
        }
        // All else as it is: seller 0 sells first, so seller 1 gets the second piece by whatever he asks up to 5.
        YearAgo two = Check.market("market days 4;thing price 5 keeps 0;seller 0 has 1 asks 0;seller 0 has 1 asks 99;"
            + buyer(0, 2, 9, 0, 0));
        Check.due("asks(1)", two.asks(1), 0);
        Check.due("he asks 99 still", two.seller(1, 0), 0);
        two.hold(1, 5);
        Check.due("by 5 he gets it", two.seller(1, 0), 5);
        two.hold(1, 6);
        Check.due("by 6 he does not", two.seller(1, 0), 0);
    }

    private static void holdEdges() {
        Check.promise("promise 20: what it was; refused: it stays");
        YearAgo x = Check.market(YearTest.FAIR);
        Check.due("hold(0, 0)", x.hold(0, 0), 10);
        Check.due("hold(0, 99)", x.hold(0, 99), 0);
        Check.due("hold(0, 20)", x.hold(0, 20), 99);
        Check.due("at 20 on DAY 2 alone", x.seller(0, 0), 40);
        for (int n : new int[] {-1, 100, Integer.MIN_VALUE, Integer.MAX_VALUE}) {
            Check.due("hold(0, " + n + ")", x.hold(0, n), -2);
            Check.due("hold(1, 5)", x.hold(1, 5), -2);
            Check.due("hold(-1, 5)", x.hold(-1, 5), -2);
            Check.due("what he gets still", x.seller(0, 0), 40);
        }
        Check.due("what he asks still", x.hold(0, 21), 20);
        Check.due("nothing by 21", x.seller(0, 0), 0);
        Check.due("all spoils or is left", x.seller(0, 2) + x.seller(0, 3), 7);
        Check.due("from now on, also behind turn()", x.turn(), 0);
        Check.due("hold(0, 10)", x.hold(0, 10), 21);
    }

    private static void queueEdges() {
        Check.promise("promise 36: 0, no more");
        YearAgo full = Check.market("market days 4;thing price 5 keeps 9;seller 0 has 62 asks 0;" + buyer(0, 9, 5, 0, 0).repeat(7));
        Check.due("63 asked, 62 offered", full.queue(0, 0), 1);
        Check.due("nothing asked", full.queue(0, 1), 0);
        Check.due("asked(0, 0)", full.asked(0, 0), 63);
        Check.due("sold(0, 0)", full.sold(0, 0), 62);
        YearAgo none = Check.market("market days 4;thing price 5 keeps 9;" + buyer(0, 9, 5, 0, 0).repeat(7));
        Check.due("63 asked, none offered", none.queue(0, 0), 63);
    }

    private static void spoilsOfAll() {
        Check.promise("promise 37: of all SELLERS, of that THING");
        YearAgo x = Check.market("market days 4;thing price 5 keeps 0;thing price 5 keeps 0;seller 0 has 1 asks 0;seller 1 has 2 asks 0;"
            + "seller 0 has 4 asks 99;grows 0 on 1 8;grows 2 on 2 16;grows 0 on 3 32;");
        int[] due = {0, 5, 8, 16};
        for (int day = 0; day < 4; day++) {
            Check.due("spoils(0, " + day + ")", x.spoils(0, day), due[day]);
            Check.due("spoils(1, " + day + ")", x.spoils(1, day), day == 1 ? 2 : 0);
        }
        Check.due("seller(0, 2)", x.seller(0, 2), 9);
        Check.due("seller(2, 2)", x.seller(2, 2), 20);
        Check.due("seller(0, 3)", x.seller(0, 3), 32);
    }

    private static void clearsEdges() {
        Check.promise("promise 42: 0 .. 99, NONE");
        // Two come: 2 for up to 40, 3 for up to 60.
        int[] due = {99, 60, 60, 60, 40, 40, -1};
        for (int stock = 0; stock < due.length; stock++) {
            YearAgo x = Check.market("market days 4;thing price 50 keeps 0;seller 0 has " + stock + " asks 50;"
                + buyer(0, 2, 40, 0, 0) + buyer(0, 3, 60, 0, 0));
            Check.due("clears(0, 0) of " + stock, x.clears(0, 0), due[stock]);
            x.hold(0, 51);
            Check.due("nothing OFFERED in the YEAR as it is", x.clears(0, 0), 99);
        }
        YearAgo ends = Check.market("market days 4;thing price 0 keeps 9;seller 0 has 1 asks 0;" + buyer(0, 1, 0, 0, 0) + buyer(0, 1, 99, 1, 1));
        Check.due("by 0", ends.clears(0, 0), 0);
        Check.due("nothing is OFFERED then", ends.clears(0, 1), 99);
    }

    private static void poorEdges() {
        Check.promise("promise 43: 0 .. 99, NONE");
        for (int stock = 3; stock <= 6; stock++) {
            YearAgo x = Check.market("market days 4;thing price 99 keeps 9;was 0 on 0 0;was 0 on 3 98;seller 0 has " + stock + " asks 0;"
                + buyer(0, 2, 0, 0, 0) + buyer(0, 1, 99, 3, 3) + buyer(0, 2, 0, 1, 2));
            long[] before = Check.state(x);
            Check.due("poor(0) of " + stock, x.poor(0), 0);
            // Buyer 1 gets his piece as long as buyer 2 does not buy; buyer 2 wants 4 of what buyer 0 leaves.
            Check.due("poor(1) of " + stock, x.poor(1), 98);
            Check.due("poor(2) of " + stock, x.poor(2), stock == 6 ? 99 : -1);
            Check.stays("poor", x, before);
        }
        // The seed's first draw of 2 is even: the two change places, so buyer 1 is first.
        YearAgo lot = Check.market("market days 4;thing price 7 keeps 9;seller 0 has 1 asks 0;" + buyer(0, 1, 7, 0, 0).repeat(2));
        Check.due("the LOT is against him", lot.poor(0), -1);
        Check.due("the LOT is for him", lot.poor(1), 7);
        YearAgo none = Check.market("market days 4;thing price 7 keeps 9;seller 0 has 9 asks 8;" + buyer(0, 1, 99, 0, 0));
        Check.due("nothing is OFFERED", none.poor(0), -1);
        String falling = "market days 4;thing price 9 keeps 9;was 0 on 1 8;was 0 on 2 7;was 0 on 3 6;old 0 on 1 99;seller 0 has 9 asks 0;";
        for (int from = 0; from < 4; from++) {
            for (int to = from; to < 4; to++) {
                Check.due("falling PRICES, from " + from + " to " + to, Check.market(falling + buyer(0, 1, 0, from, to)).poor(0), 9 - from);
            }
        }
    }

    private static void villageEdges() {
        Check.promise("promise 44: sets of SELLERS");
        StringBuilder text = new StringBuilder("market days 5;");
        for (int i = 0; i < 5; i++) {
            text.append("thing price ").append(1 << i).append(" keeps 9;seller ").append(i).append(" has 1 asks 0;").append(buyer(i, 1, 99, i, i));
        }
        YearAgo x = Check.market(text.toString());
        // Seller i gets 2 to the power of i on DAY i.
        for (int set = 0; set < 32; set++) {
            int top = 31 - Integer.numberOfLeadingZeros(set);
            Check.due("village(" + set + ", 0)", x.village(set, 0), set == 0 ? -1 : top);
            Check.due("village(" + set + ", 1)", x.village(set, 1), set == 0 ? 0 : 1 << top);
            Check.due("village(" + set + ", 2)", x.village(set, 2), set);
        }
        for (int set : new int[] {-1, -32, 32, 33, 64, 1 << 30, Integer.MIN_VALUE, Integer.MIN_VALUE + 1, Integer.MAX_VALUE}) {
            for (int what = 0; what < 3; what++) {
                Check.due("village(" + set + ", " + what + ")", x.village(set, what), -2);
            }
        }
    }

    private static void chance(YearAgo x, int buyer, int day, int above, int below) {
        Check.due("chance(" + buyer + ", " + day + ", 0)", x.chance(buyer, day, 0), above);
        Check.due("chance(" + buyer + ", " + day + ", 1)", x.chance(buyer, day, 1), below);
    }

    private static void chanceEdges() {
        Check.promise("promise 45: lowest terms; 0 / 1: he does not come");
        YearAgo one = Check.market("market days 4;thing price 5 keeps 9;was 0 on 2 6;seller 0 has 1 asks 0;" + buyer(0, 1, 5, 1, 2));
        chance(one, 0, 0, 0, 1);
        chance(one, 0, 1, 1, 1);
        chance(one, 0, 2, 0, 1);
        chance(one, 0, 3, 0, 1);
        for (int many = 1; many <= 7; many++) {
            for (int stock = 0; stock <= many + 1; stock++) {
                YearAgo x = Check.market("market days 4;thing price 5 keeps 9;seller 0 has " + stock + " asks 0;" + buyer(0, 1, 5, 0, 0).repeat(many));
                int common = BigInteger.valueOf(Math.min(stock, many)).gcd(BigInteger.valueOf(many)).intValueExact();
                chance(x, many - 1, 0, Math.min(stock, many) / common, many / common);
                chance(x, 0, 0, Math.min(stock, many) / common, many / common);
            }
        }
        // 1 and 9 of 9: he of 9 is first in half of the orders; he of 1 too.
        YearAgo nine = Check.market("market days 4;thing price 5 keeps 9;seller 0 has 9 asks 0;" + buyer(0, 1, 5, 0, 0) + buyer(0, 9, 5, 0, 0));
        chance(nine, 0, 0, 1, 2);
        chance(nine, 1, 0, 1, 2);
        // He wants more than there is: never, in lowest terms 0 / 1.
        YearAgo never = Check.market("market days 4;thing price 5 keeps 9;seller 0 has 8 asks 0;" + buyer(0, 1, 5, 0, 0) + buyer(0, 9, 5, 0, 0));
        chance(never, 1, 0, 0, 1);
        chance(never, 0, 0, 1, 2);
        // As much ASKED as OFFERED: no LOT.
        YearAgo all = Check.market("market days 4;thing price 5 keeps 9;seller 0 has 10 asks 0;" + buyer(0, 1, 5, 0, 0) + buyer(0, 9, 5, 0, 0));
        chance(all, 0, 0, 1, 1);
        chance(all, 1, 0, 1, 1);
        // Others of another thing, and those too poor, are not in the LOT.
        YearAgo others = Check.market("market days 4;thing price 5 keeps 9;thing price 5 keeps 9;seller 0 has 1 asks 0;"
            + buyer(0, 1, 5, 0, 0) + buyer(1, 1, 5, 0, 0) + buyer(0, 1, 4, 0, 0) + buyer(0, 1, 5, 1, 1) + buyer(0, 1, 5, 0, 0));
        chance(others, 0, 0, 1, 2);
        chance(others, 4, 0, 1, 2);
        chance(others, 1, 0, 0, 1);
        chance(others, 2, 0, 0, 1);
        // Two of three get theirs; those who do not come stand ahead of them, between them and behind.
        YearAgo three = Check.market("market days 4;thing price 5 keeps 9;thing price 5 keeps 9;seller 0 has 2 asks 0;"
            + buyer(1, 1, 5, 0, 0) + buyer(0, 1, 5, 0, 0) + buyer(0, 1, 4, 0, 0) + buyer(0, 1, 5, 0, 0)
            + buyer(0, 1, 5, 1, 3) + buyer(0, 1, 5, 0, 0) + buyer(0, 1, 0, 0, 0));
        for (int b = 0; b < 7; b++) {
            boolean there = b == 1 || b == 3 || b == 5;
            chance(three, b, 0, there ? 2 : 0, there ? 3 : 1);
        }
        // By the PRICE of that DAY: 50 on DAY 0 and two years ago, 5 on DAY 2.
        YearAgo then = Check.market("market days 4;thing price 50 keeps 9;was 0 on 2 5;seller 0 has 2 asks 0;"
            + buyer(0, 1, 50, 2, 3) + buyer(0, 1, 5, 2, 2) + buyer(0, 1, 49, 0, 2) + buyer(0, 1, 4, 2, 2));
        for (int b = 0; b < 4; b++) {
            chance(then, b, 2, b < 3 ? 2 : 0, b < 3 ? 3 : 1);
            chance(then, b, 3, 0, 1);
            chance(then, b, 0, 0, 1);
        }
        // Offered as in the YEAR as it is: on DAY 1 one of two pieces is gone.
        YearAgo later = Check.market("market days 4;thing price 5 keeps 9;seller 0 has 2 asks 0;"
            + buyer(0, 1, 5, 0, 0) + buyer(0, 1, 5, 1, 1).repeat(3));
        chance(later, 3, 1, 1, 3);
    }

    private static void yearsEdges() {
        Check.promise("promise 47: the seed and 1, ..");
        YearAgo x = Check.market("market days 4;thing price 5 keeps 0;seller 0 has 1 asks 0;" + buyer(0, 1, 5, 0, 0).repeat(3));
        for (int seed : new int[] {0, 1, 1999999981, 2000000000}) {
            for (int n : new int[] {1, 2, 20}) {
                int[] got = new int[3];
                for (int i = 0; i < n; i++) {
                    got[mixed(from(seed + i), 0, 1, 2)[0]]++;
                }
                for (int b = 0; b < 3; b++) {
                    Check.due("years(" + seed + ", " + n + ", " + b + ")", x.years(seed, n, b), got[b]);
                }
            }
        }
        for (int b = 0; b < 3; b++) {
            Check.due("the YEAR as it is stays: buyer(" + b + ", 1)", x.buyer(b, 1), b == mixed(from(1), 0, 1, 2)[0] ? 1 : 0);
        }
    }

    /** All that a YEAR tells of two THINGS, SELLERS and BUYERS. */
    private static long[] yearOf(YearAgo x) {
        long[] all = new long[100];
        int n = 0;
        for (int day = 0; day < 4; day++) {
            for (int i = 0; i < 2; i++) {
                int[] here = {x.offered(i, day), x.asked(i, day), x.sold(i, day), x.queue(i, day), x.spoils(i, day), x.gets(i, day), x.stock(i, day)};
                for (int answer : here) {
                    all[n++] = answer;
                }
            }
        }
        for (int i = 0; i < 2; i++) {
            for (int what = 0; what < 5; what++) {
                all[n++] = x.seller(i, what);
            }
            for (int what = 0; what < 3; what++) {
                all[n++] = x.buyer(i, what);
            }
        }
        for (int what = 0; what < 4; what++) {
            all[n++] = x.rich(what);
        }
        return java.util.Arrays.copyOf(all, n);
    }

    /** Asked ahead of a change or not, behind it the YEAR tells the same. */
    private static void yearAnew() {
        Check.promise("the YEAR as it is, behind hold, like, turn, restore, market");
        String text = "market days 4;thing price 10 keeps 1;thing price 20 keeps 0;was 0 on 2 30;seller 0 has 5 asks 10;seller 1 has 4 asks 20;"
            + "grows 0 on 2 3;grows 1 on 3 2;" + buyer(0, 2, 25, 0, 3) + buyer(1, 1, 40, 0, 3);
        String[] changes = {"hold", "like", "turn", "restore", "market"};
        YearAgo x = Check.market(text);
        x.image(0);
        x.mark(0, 0, 90);
        x.mark(1, 3, 41);
        long[] first = yearOf(x);
        for (int many = 1; many <= changes.length; many++) {
            YearAgo fresh = Check.market(text);
            fresh.image(0);
            fresh.mark(0, 0, 90);
            fresh.mark(1, 3, 41);
            for (int i = 0; i < many; i++) {
                change(fresh, changes[i], text);
            }
            change(x, changes[many - 1], text);
            long[] now = yearOf(x);
            Check.dueRow("the YEAR behind " + changes[many - 1], now, yearOf(fresh));
            Check.due("it is another behind " + changes[many - 1], java.util.Arrays.equals(first, now) ? 1 : 0, many == 4 ? 1 : 0);
        }
    }

    private static void change(YearAgo x, String what, String text) {
        switch (what) {
            case "hold":
                x.hold(0, 99);
                break;
            case "like":
                x.like(0, 1, 1, 1, 0);
                break;
            case "turn":
                x.turn();
                break;
            case "restore":
                x.restore(0);
                break;
            default:
                Check.tell(x, text.replace("has 5", "has 1"));
                break;
        }
    }
}
