/** The edges that 'Terms' IV and V and promises 24, 25, 29, 34, 35, 38, 39 and 48 to 50 name. */
public final class PricesEdgesTest {
    private static final String TWO = "market days 4;thing price 10 keeps 0;thing price 20 keeps 2;was 0 on 3 25;was 1 on 0 3;";

    private PricesEdgesTest() {
    }

    public static void main(String[] args) {
        markEdges();
        markRefused();
        turnEdges();
        turnOfAll();
        leapEdges();
        passingEdges();
        passingFirstOfSeveral();
        likeEdges();
        likeRefused();
        shapeEdges();
        dearerEdges();
        refused();
        marketsOfNothing();
        countEdges();
        imageEdges();
        imagesKeep();
        imagesOfNothing();
        Check.finish();
    }

    // ---- MARKS ----

    private static void markEdges() {
        Check.promise("Terms IV: no more than PRICE and cap together, as the PRICE is when it is MARKED");
        for (int cap : new int[] {0, 1, 49, 50, 98, 99}) {
            YearAgo x = Check.market("market days 4;thing price 50 keeps 0;was 0 on 1 0;was 0 on 2 99;cap " + cap + ";");
            int[] prices = {50, 0, 99, 50};
            for (int day = 0; day < 4; day++) {
                int top = Math.min(99, prices[day] + cap);
                for (int n : new int[] {0, 1, Math.max(0, top - 1), top, Math.min(99, top + 1), 99}) {
                    Check.due("mark(0, " + day + ", " + n + ") by a cap of " + cap, x.mark(0, day, n), Math.min(n, top));
                }
                Check.due("the PRICE is the same now", x.price(0, day), prices[day]);
                Check.due("and so is the YEAR", x.asked(0, day), 0);
            }
            int changes = 0;
            for (int day = 0; day < 4; day++) {
                changes += Math.min(99, prices[day] + cap) != prices[day] ? 1 : 0;
            }
            Check.due("MARKED otherwise by a cap of " + cap, x.count(7), changes);
            Check.due("turn()", x.turn(), changes);
            for (int day = 0; day < 4; day++) {
                Check.due("price(0, " + day + ") then", x.price(0, day), Math.min(99, prices[day] + cap));
            }
        }
        YearAgo x = Check.market("market days 4;thing price 10 keeps 0;thing price 40 keeps 0;cap 5;");
        Check.due("mark(0, 0, 99)", x.mark(0, 0, 99), 15);
        x.like(0, 1, 1, 1, 0);
        Check.due("a dearer PRICE leaves what is MARKED", x.turn(), 1);
        Check.due("price(0, 0)", x.price(0, 0), 15);
        Check.due("by the new PRICE", x.mark(0, 0, 99), 20);
        Check.due("a later mark strikes", x.mark(0, 0, 16), 16);
        Check.due("and one as it is now", x.mark(0, 0, 15), 15);
        Check.due("is none otherwise", x.count(7), 0);
        Check.due("none changes", x.turn(), 0);
    }

    private static void markRefused() {
        Check.promise("promise 24: -2, there are none such, and nothing is MARKED");
        YearAgo x = Check.market(TWO);
        long[] before = Check.state(x);
        Check.none("mark of no THING", -2, n -> x.mark(2, n, 5));
        Check.none("mark of no DAY", -2, n -> x.mark(n, 4, 5));
        for (int n : new int[] {-1, 100, Integer.MIN_VALUE, Integer.MAX_VALUE}) {
            Check.due("mark(0, 0, " + n + ")", x.mark(0, 0, n), -2);
            Check.due("mark(" + (n == 100 ? 2 : n) + ", 0, 5)", x.mark(n == 100 ? 2 : n, 0, 5), -2);
            Check.due("mark(0, " + (n == 100 ? 4 : n) + ", 5)", x.mark(0, n == 100 ? 4 : n, 5), -2);
        }
        Check.stays("mark", x, before);
        Check.due("mark(1, 3, 77)", x.mark(1, 3, 77), 77);
        Check.due("mark(1, 3, 100)", x.mark(1, 3, 100), -2);
        Check.due("mark(1, 4, 20)", x.mark(1, 4, 20), -2);
        Check.due("MARKED still", x.count(7), 1);
        Check.due("turn()", x.turn(), 1);
        Check.due("price(1, 3)", x.price(1, 3), 77);
    }

    private static void turnEdges() {
        Check.promise("promise 25: how many PRICES change");
        YearAgo x = Check.market(TWO + "old 0 on 0 1;old 1 on 3 2;seller 0 has 1 asks 7;cap 30;");
        Check.due("none is MARKED", x.turn(), 0);
        for (int day = 0; day < 4; day++) {
            Check.due("old(0, " + day + ") is the PRICE", x.old(0, day), day == 3 ? 25 : 10);
            Check.due("old(1, " + day + ") is the PRICE", x.old(1, day), day == 0 ? 3 : 20);
        }
        x.mark(0, 0, 11);
        x.mark(0, 1, 10);
        x.mark(1, 3, 0);
        Check.due("two of three change", x.turn(), 2);
        Check.due("price(0, 0)", x.price(0, 0), 11);
        Check.due("old(0, 0)", x.old(0, 0), 10);
        Check.due("price(1, 3)", x.price(1, 3), 0);
        Check.due("old(1, 3)", x.old(1, 3), 20);
        Check.due("nothing is MARKED", x.count(7), 0);
        Check.due("so none changes", x.turn(), 0);
        Check.due("old(0, 0) a year later", x.old(0, 0), 11);
        Check.due("price(0, 0) a year later", x.price(0, 0), 11);
        // Nothing of what was MARKED is left, also where PRICES change then.
        x.like(0, 1, 1, 1, 0);
        Check.due("nothing is MARKED behind like", x.count(7), 0);
        Check.due("so none changes then", x.turn(), 0);
        Check.due("price(0, 0) by like", x.price(0, 0), 3);
        Check.due("what he asks stays", x.hold(0, 7), 7);
        Check.due("the cap stays", x.count(6), 30);
        Check.due("the lines stay", x.count(4), 9);
        YearAgo none = new YearAgo();
        Check.due("no MARKET", none.turn(), -2);
        Check.tell(none, "x");
        Check.due("nor behind a fault", none.turn(), -2);
        Check.due("no THINGS", Check.market("market days 4;").turn(), 0);
    }

    private static void turnOfAll() {
        Check.promise("Terms IV: of all THINGS and DAYS");
        StringBuilder text = new StringBuilder("market days 20;");
        for (int thing = 0; thing < 5; thing++) {
            text.append("thing price ").append(10 * thing).append(" keeps 0;");
        }
        YearAgo x = Check.market(text.toString());
        for (int thing = 0; thing < 5; thing++) {
            for (int day = 0; day < 20; day++) {
                Check.due("mark", x.mark(thing, day, 99 - day), 99 - day);
            }
        }
        Check.due("MARKED otherwise", x.count(7), 100);
        Check.due("turn()", x.turn(), 100);
        for (int thing = 0; thing < 5; thing++) {
            for (int day = 0; day < 20; day += 19) {
                Check.due("price(" + thing + ", " + day + ")", x.price(thing, day), 99 - day);
                Check.due("old(" + thing + ", " + day + ")", x.old(thing, day), 10 * thing);
            }
        }
        Check.due("turn() again", x.turn(), 0);
        Check.due("old(4, 19)", x.old(4, 19), 80);
    }

    // ---- leaps ----

    private static void leapEdges() {
        Check.promise("promise 29: behind the last the first comes; cut");
        YearAgo x = Check.market("market days 4;thing price 0 keeps 0;was 0 on 1 99;was 0 on 2 98;was 0 on 3 1;"
            + "thing price 99 keeps 0;");
        int[][] due = {{0, 99, 49}, {99, 98, 98}, {98, 1, 49}, {1, 0, 0}};
        for (int day = 0; day < 4; day++) {
            for (int law = 0; law < 3; law++) {
                Check.due("leap(0, " + day + ", " + law + ")", x.leap(0, day, law), due[day][law]);
                Check.due("leap(1, " + day + ", " + law + ")", x.leap(1, day, law), 99);
            }
            int d = day;
            Check.edges("leap law", 0, 2, -2, n -> x.leap(0, d, n));
        }
        YearAgo last = Check.market("market days 20;thing price 5 keeps 0;was 0 on 0 8;");
        Check.due("leap(0, 19, 1)", last.leap(0, 19, 1), 8);
        Check.due("leap(0, 19, 2)", last.leap(0, 19, 2), 6);
        Check.due("leap(0, 18, 1)", last.leap(0, 18, 1), 5);
        Check.due("leap(0, 20, 0)", last.leap(0, 20, 0), -2);
    }

    // ---- PASSING ----

    private static void pass(String what, YearAgo x, int gain, int bought, int sold, int way) {
        int[] due = {gain, bought, sold, way};
        for (int k = 0; k < 4; k++) {
            Check.due("passing(0, " + k + "), " + what, x.passing(0, k), due[k]);
        }
    }

    private static void passingEdges() {
        Check.promise("Terms V: on that DAY or up to so many behind as it keeps, within the YEAR");
        for (int keeps : new int[] {0, 1, 2, 3, 4, 30}) {
            // Cheap on DAY 0 by PRICES; dear in the other market on one DAY alone.
            for (int day = 0; day < 4; day++) {
                StringBuilder text = new StringBuilder("market days 4;thing price 50 keeps " + keeps + ";was 0 on 0 40;old 0 on 0 40;");
                text.append("old 0 on ").append(day).append(" 90;");
                boolean there = day <= keeps;
                pass("dear on " + day + ", keeps " + keeps, Check.market(text.toString()), there ? 50 : 40,
                    there ? 0 : day - keeps, day, 0);
            }
        }
        // Bought on the last DAY it is sold on it: the YEAR is over, the first does not come behind it.
        pass("the last DAY", Check.market("market days 4;thing price 50 keeps 30;was 0 on 3 49;old 0 on 0 99;was 0 on 0 99;"), 1, 3, 3, 0);
        pass("nothing is to be gained", Check.market("market days 4;thing price 50 keeps 30;"), 0, -1, -1, -1);
        pass("nor by falling PRICES", Check.market("market days 4;thing price 50 keeps 30;was 0 on 0 53;was 0 on 1 52;was 0 on 2 51;"
            + "old 0 on 0 53;old 0 on 1 52;old 0 on 2 51;"), 0, -1, -1, -1);
        pass("1 by the last two DAYS", Check.market("market days 4;thing price 50 keeps 1;old 0 on 3 51;"), 1, 2, 3, 0);
        pass("1 the other way round", Check.market("market days 4;thing price 50 keeps 1;was 0 on 3 51;"), 1, 2, 3, 1);
        pass("as much as can be", Check.market("market days 20;thing price 99 keeps 19;old 0 on 0 0;"), 99, 0, 0, 1);
        pass("as far as can be", Check.market("market days 20;thing price 50 keeps 19;was 0 on 0 0;old 0 on 19 99;"), 99, 0, 19, 0);
        pass("not so far", Check.market("market days 20;thing price 50 keeps 18;was 0 on 0 0;old 0 on 19 99;"), 50, 0, 0, 0);
        // In one market alone nothing passes: it is sold in the other one.
        pass("in one market", Check.market("market days 4;thing price 50 keeps 3;was 0 on 0 10;was 0 on 3 90;old 0 on 3 11;old 0 on 1 89;"
            + "old 0 on 0 10;old 0 on 2 10;"), 80, 0, 3, 1);
    }

    private static void passingFirstOfSeveral() {
        Check.promise("promise 34: the first of several by 3, 1, 2");
        // 5 is to be gained each way: by PRICES first, though the other way is sooner.
        pass("by 3", Check.market("market days 4;thing price 50 keeps 0;old 0 on 0 45;old 0 on 3 55;"), 5, 3, 3, 0);
        pass("by 1", Check.market("market days 4;thing price 50 keeps 1;was 0 on 1 45;was 0 on 2 45;"), 5, 1, 1, 0);
        pass("by 2", Check.market("market days 4;thing price 50 keeps 2;was 0 on 1 45;old 0 on 1 60;old 0 on 2 60;"), 15, 1, 1, 0);
        pass("by 2, later", Check.market("market days 4;thing price 50 keeps 2;was 0 on 0 45;old 0 on 1 60;old 0 on 2 60;"), 15, 0, 1, 0);
        pass("more goes ahead of all", Check.market("market days 4;thing price 50 keeps 0;old 0 on 0 55;old 0 on 3 44;"), 6, 3, 3, 1);
    }

    // ---- likes ----

    private static void likeEdges() {
        Check.promise("promise 35: n and k 0 .. 9, cut");
        int[][] due = {{0, 1, 50}, {1, 0, 99}, {1, 1, 74}, {9, 9, 74}, {0, 9, 50}, {9, 0, 99}, {9, 1, 94}, {1, 9, 54}, {1, 2, 66}};
        for (int[] at : due) {
            YearAgo x = Check.market("market days 4;thing price 0 keeps 0;thing price 99 keeps 0;thing price 50 keeps 0;was 1 on 3 1;was 2 on 3 0;");
            int last = at[0] / (at[0] + at[1]);
            Check.due("like(0, 1, " + at[0] + ", 2, " + at[1] + ")", x.like(0, 1, at[0], 2, at[1]), 3 * at[2] + last);
            for (int day = 0; day < 4; day++) {
                Check.due("price(0, " + day + ")", x.price(0, day), day == 3 ? last : at[2]);
                Check.due("old(0, " + day + ") stays", x.old(0, day), 0);
                Check.due("price(1, " + day + ") stays", x.price(1, day), day == 3 ? 1 : 99);
                Check.due("price(2, " + day + ") stays", x.price(2, day), day == 3 ? 0 : 50);
            }
        }
        YearAgo x = Check.market(TWO + "cap 0;");
        x.mark(0, 0, 4);
        Check.due("itself and another, beyond a cap of 0", x.like(0, 0, 1, 1, 9), (10 + 27) / 10 + 19 + 19 + (25 + 180) / 10);
        Check.due("price(0, 0)", x.price(0, 0), 3);
        Check.due("MARKED still", x.count(7), 1);
        Check.due("itself alone", x.like(1, 1, 9, 1, 9), 63);
        Check.due("the greatest", Check.market("market days 20;thing price 99 keeps 0;").like(0, 0, 9, 0, 9), 1980);
        Check.due("the least", Check.market("market days 20;thing price 0 keeps 0;").like(0, 0, 9, 0, 9), 0);
    }

    private static void likeRefused() {
        Check.promise("promise 35: -2, there are none such, n and k are 0, and PRICES stay");
        YearAgo x = Check.market(TWO);
        long[] before = Check.state(x);
        Check.due("n and k are 0", x.like(0, 0, 0, 1, 0), -2);
        for (int n : new int[] {-1, 10, Integer.MIN_VALUE, Integer.MAX_VALUE}) {
            Check.due("n of " + n, x.like(0, 0, n, 1, 1), -2);
            Check.due("k of " + n, x.like(0, 0, 1, 1, n), -2);
            Check.due("n and k of " + n, x.like(0, 0, n, 1, n), -2);
        }
        // Together they would be 1.
        Check.due("n of -1, k of 2", x.like(0, 0, -1, 1, 2), -2);
        Check.due("n of 2, k of -1", x.like(0, 0, 2, 1, -1), -2);
        for (int t : new int[] {-1, 2, Integer.MIN_VALUE, Integer.MAX_VALUE}) {
            Check.due("thing " + t, x.like(t, 0, 1, 1, 1), -2);
            Check.due("one " + t, x.like(0, t, 1, 1, 1), -2);
            Check.due("other " + t, x.like(0, 0, 1, t, 1), -2);
            Check.due("other " + t + ", 0 times", x.like(0, 0, 1, t, 0), -2);
        }
        Check.stays("like", x, before);
    }

    // ---- shapes ----

    private static void shape(String prices, int... due) {
        StringBuilder text = new StringBuilder();
        String[] each = prices.split(" ");
        for (int day = 0; day < each.length; day++) {
            text.append("was 0 on ").append(day).append(' ').append(each[day]).append(';');
        }
        YearAgo x = Check.market("market days " + each.length + ";thing price 50 keeps 0;" + text);
        for (int what = 0; what < 4; what++) {
            Check.due("shape(0, " + what + ") of " + prices, x.shape(0, what), due[what]);
        }
        Check.edges("shape what", 0, 3, -2, n -> x.shape(0, n));
    }

    private static void shapeEdges() {
        Check.promise("promise 38: the first of several; other than on the DAY ahead; DAYS in a row");
        shape("5 5 5 5", 0, 0, 0, 4);
        shape("5 5 5 6", 3, 0, 1, 3);
        shape("6 5 5 5", 0, 1, 1, 3);
        shape("5 6 5 6", 1, 0, 3, 1);
        shape("6 5 6 5", 0, 1, 3, 1);
        shape("5 5 6 6", 2, 0, 1, 2);
        shape("0 99 99 0", 1, 0, 2, 2);
        shape("99 0 0 99", 0, 1, 2, 2);
        shape("4 3 2 1", 0, 3, 3, 1);
        shape("1 2 3 4", 3, 0, 3, 1);
        shape("7 7 8 7 7 7 8", 2, 0, 3, 3);
        shape("1 1 1 1 1 1 1 1 1 1 1 1 1 1 1 1 1 1 1 1", 0, 0, 0, 20);
        shape("1 2 1 2 1 2 1 2 1 2 1 2 1 2 1 2 1 2 1 2", 1, 0, 19, 1);
    }

    private static void dearerEdges() {
        Check.promise("promise 39: dearer, not as dear; one twice");
        YearAgo x = Check.market("market days 4;thing price 50 keeps 0;thing price 50 keeps 0;thing price 49 keeps 0;thing price 99 keeps 0;"
            + "was 1 on 0 51;was 1 on 3 49;");
        int[][] due = {{-2, 1, 4, 0}, {1, -2, 3, 0}, {0, 0, -2, 0}, {4, 4, 4, -2}};
        for (int t = 0; t < 4; t++) {
            for (int o = 0; o < 4; o++) {
                Check.due("dearer(" + t + ", " + o + ")", x.dearer(t, o), due[t][o]);
            }
            for (int o : new int[] {-1, 4, Integer.MIN_VALUE, Integer.MAX_VALUE}) {
                Check.due("dearer(" + t + ", " + o + ")", x.dearer(t, o), -2);
                Check.due("dearer(" + o + ", " + t + ")", x.dearer(o, t), -2);
                Check.due("dearer(" + o + ", " + o + ")", x.dearer(o, o), -2);
            }
        }
    }

    // ---- what is refused ----

    private static void refused() {
        Check.promise("promises 24, 29, 30, 34, 35, 38: -2, there are none such");
        for (String text : new String[] {YearTest.FAIR, ExtremesTest.greatest()}) {
            YearAgo x = Check.market(text);
            int t = x.count(1) - 1;
            int d = x.count(0) - 1;
            Check.edges("leap", 0, t, -2, n -> x.leap(n, d, 0));
            Check.edges("leap day", 0, d, -2, n -> x.leap(t, n, 2));
            Check.edges("come", 0, t, -2, n -> x.come(n, d, 0));
            Check.edges("come day", 0, d, -2, n -> x.come(t, n, 0));
            Check.edges("come n", 0, 99, -2, n -> x.come(t, d, n));
            Check.edges("passing", 0, t, -2, n -> x.passing(n, 0));
            Check.edges("passing what", 0, 3, -2, n -> x.passing(t, n));
            Check.edges("shape", 0, t, -2, n -> x.shape(n, 0));
            Check.edges("like", 0, t, -2, n -> x.like(n, t, 1, t, 1));
            Check.edges("like one", 0, t, -2, n -> x.like(t, n, 1, t, 1));
            Check.edges("like n", 0, 9, -2, n -> x.like(t, t, n, t, 1));
            Check.edges("like other", 0, t, -2, n -> x.like(t, t, 1, n, 1));
            Check.edges("like k", 0, 9, -2, n -> x.like(t, t, 1, t, n));
            Check.edges("mark", 0, t, -2, n -> x.mark(n, d, 5));
            Check.edges("mark day", 0, d, -2, n -> x.mark(t, n, 5));
            Check.edges("mark n", 0, 99, -2, n -> x.mark(t, d, n));
        }
    }

    private static void marketsOfNothing() {
        Check.promise("a MARKET without THINGS, and none");
        for (YearAgo x : new YearAgo[] {new YearAgo(), Check.market("market days 4;")}) {
            Check.none("mark", -2, n -> x.mark(n, 0, 0));
            Check.none("leap", -2, n -> x.leap(n, 0, 0));
            Check.none("passing", -2, n -> x.passing(n, 0));
            Check.none("like", -2, n -> x.like(n, n, 1, n, 1));
            Check.none("shape", -2, n -> x.shape(n, 0));
            Check.none("dearer", -2, n -> x.dearer(n, n + 1));
            Check.none("come", -2, n -> x.come(n, 0, 0));
        }
    }

    // ---- counts ----

    private static void countEdges() {
        Check.promise("promise 48: NONE for others (0 without a MARKET)");
        YearAgo x = new YearAgo();
        for (int when = 0; when < 2; when++) {
            for (int what : new int[] {-1, 9, 10, Integer.MIN_VALUE, Integer.MAX_VALUE}) {
                Check.due("count(" + what + ")", x.count(what), -1);
            }
            for (int what = 0; what <= 8; what++) {
                Check.due("count(" + what + ") without a MARKET", x.count(what), 0);
            }
            Check.tell(x, "x");
        }
        int[] due = {20, 5, 5, 7, 2 * 20 + 18, 0, 99, 0, 0};
        Check.tell(x, ExtremesTest.greatest());
        for (int what = 0; what <= 8; what++) {
            Check.due("count(" + what + ") of the greatest", x.count(what), due[what]);
        }
        for (int what : new int[] {-1, 9, 10, Integer.MIN_VALUE, Integer.MAX_VALUE}) {
            Check.due("count(" + what + ") of the greatest", x.count(what), -1);
        }
        for (int i = 1; i <= 100; i++) {
            x.feed(0, 0, 0, 0, 0);
            Check.due("count(5)", x.count(5), 20 * i);
        }
        for (int slot = 0; slot < 4; slot++) {
            Check.due("row of a SLOT", x.row(3 - slot, slot, 0), 0);
            Check.due("count(8)", x.count(8), slot + 1);
            x.row(3 - slot, slot, 60);
            Check.due("count(8), another in its place", x.count(8), slot + 1);
        }
        x.row(0, 0, 61);
        x.row(0, 0, -1);
        Check.due("count(8) behind what is refused", x.count(8), 4);
    }

    // ---- IMAGES ----

    private static void imageEdges() {
        Check.promise("promises 49 and 50: k 0 .. 2, -6: it has nothing");
        YearAgo x = Check.market(TWO);
        for (int k : new int[] {-1, 3, Integer.MIN_VALUE, Integer.MAX_VALUE}) {
            Check.due("image(" + k + ")", x.image(k), -2);
            Check.due("restore(" + k + ")", x.restore(k), -2);
        }
        for (int k = 0; k < 3; k++) {
            Check.due("restore(" + k + ") ahead of it", x.restore(k), -6);
            Check.due("price(0, 3) stays", x.price(0, 3), 25);
        }
        for (int k = 0; k < 3; k++) {
            Check.due("image(" + k + ")", x.image(k), 0);
            for (int other = 0; other < 3; other++) {
                Check.due("restore(" + other + ") behind image(" + k + ")", x.restore(other), other <= k ? 0 : -6);
            }
        }
        Check.edges("image", 0, 2, -2, x::image);
        Check.edges("restore", 0, 2, -2, x::restore);
    }

    private static void imagesKeep() {
        Check.promise("promises 49 and 50: the MARKET, PRICES, MARKS, what SELLERS ask");
        String text = TWO + "old 0 on 1 77;seller 0 has 5 asks 3;seller 1 has 5 asks 4;grows 0 on 2 6;"
            + "buyer 0 wants 2 pays 30 from 0 to 3 stores 0;buyer 1 wants 9 pays 30 from 1 to 3 stores 0;cap 8;";
        YearAgo x = Check.market(text);
        x.mark(0, 0, 12);
        x.mark(1, 1, 28);
        x.hold(1, 15);
        long[] before = Check.state(x);
        x.image(0);
        x.image(1);
        // Nothing that comes behind it changes an image.
        x.mark(0, 1, 1);
        x.hold(0, 99);
        x.like(0, 1, 2, 1, 1);
        x.turn();
        x.mark(1, 2, 5);
        Check.due("restore(0)", x.restore(0), 0);
        Check.stays("restore(0)", x, before);
        Check.due("another MARKET", Check.tell(x, "market days 9;"), 1);
        Check.due("restore(1)", x.restore(1), 0);
        Check.stays("restore(1)", x, before);
        // What has been gone back to is no image: it may change, and the image stays.
        x.hold(0, 99);
        x.turn();
        x.restore(0);
        Check.stays("restore(0) again", x, before);
        x.hold(0, 98);
        long[] other = Check.state(x);
        Check.due("image(0) in place of another", x.image(0), 0);
        x.restore(1);
        Check.stays("restore(1) then", x, before);
        x.restore(0);
        Check.stays("restore(0) then", x, other);
        Check.due("refused, it stays", x.restore(3), -2);
        Check.due("refused, they stay", x.image(-1), -2);
        Check.stays("what is refused", x, other);
        // TAPE, SLOTS and the latest FAULT are none of an image's.
        x.row(2, 0, 3);
        Check.tell(x, " cap");
        x.feed(0, 0, 0, 0, 0);
        x.restore(1);
        Check.due("the tape", x.count(5), 20);
        Check.due("the rows", x.count(8), 1);
        Check.due("the fault", x.fault(0), 1);
        Check.due("its place", x.fault(1), 1);
    }

    private static void imagesOfNothing() {
        Check.promise("promises 49 and 50: no MARKET is kept too");
        YearAgo x = new YearAgo();
        Check.due("image(1)", x.image(1), 0);
        Check.tell(x, TWO);
        x.mark(0, 0, 1);
        Check.due("restore(1)", x.restore(1), 0);
        for (int what = 0; what <= 8; what++) {
            Check.due("count(" + what + ")", x.count(what), 0);
        }
        Check.due("price(0, 0)", x.price(0, 0), -2);
        Check.due("turn()", x.turn(), -2);
        Check.due("rich(0)", x.rich(0), -2);
        Check.due("restore(0)", x.restore(0), -6);
        Check.due("restore(1) again", x.restore(1), 0);
    }
}
