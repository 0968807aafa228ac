import java.math.BigInteger;

/** The edges that 'Terms' I and promises 1 to 5 name: the tape, each number of a line, tokens, faults and their places. */
public final class TextEdgesTest {
    private static final String HEAD = "market days 4;";
    private static final String THING = "thing price 10 keeps 1;";
    private static final String SELLER = "seller 0 has 1 asks 1;";
    private static final String BUYER = "buyer 0 wants 1 pays 1 from 0 to 0 stores 0;";

    private TextEdgesTest() {
    }

    public static void main(String[] args) {
        newObject();
        newObjectsOwnNothing();
        lastOfManyCalls();
        feedToTheFull();
        feedHighestFirst();
        endCuts();
        endRefuses();
        marketEmptiesTheTape();
        marketInPlaceOfAnother();
        faultLeavesAllElse();
        faultOfTheLatest();
        placesOnTheTape();
        numbersOfLines();
        toldAhead();
        numbersReachTheMarket();
        numbersWrapAround();
        mostOfAll();
        laterOnesStrike();
        everyByte();
        theLongest();
        wordsAhead();
        everyPrefix();
        firstByPlace();
        Check.finish();
    }

    // ---- promise 1 ----

    private static void newObject() {
        Check.promise("promise 1: no MARKET");
        YearAgo x = new YearAgo();
        int[] two = {x.price(0, 0), x.old(0, 0), x.offered(0, 0), x.asked(0, 0), x.sold(0, 0), x.seller(0, 0), x.gets(0, 0),
            x.stock(0, 0), x.buyer(0, 0), x.rich(0), x.rich(1), x.rich(2), x.rich(3), x.best(0), x.worth(0, 0), x.thursday(0),
            x.asks(0), x.hold(0, 0), x.cheapest(0), x.buys(0, 0), x.crowd(0), x.mark(0, 0, 0), x.turn(), x.least(0, 0, 1),
            x.most(0), x.leap(0, 0, 0), x.come(0, 0, 0), x.agree(0, 0, 0), x.told(0, 0, 0, 0), x.odd(0), x.passing(0, 0),
            x.like(0, 0, 1, 0, 1), x.queue(0, 0), x.spoils(0, 0), x.shape(0, 0), x.dearer(0, 1), x.keeping(0, 0), x.enough(0),
            x.clears(0, 0), x.poor(0), x.village(0, 0), x.village(0, 2), x.chance(0, 0, 0), x.lots(0, 0), x.years(0, 1, 0)};
        for (int i = 0; i < two.length; i++) {
            Check.due("call " + i + " of a new object", two[i], -2);
        }
        Check.due("made(0, 0, 0)", x.made(0, 0, 0), -1000000);
        for (int what = 0; what <= 8; what++) {
            Check.due("count(" + what + ")", x.count(what), 0);
        }
        for (int k = 0; k < 3; k++) {
            Check.due("restore(" + k + ")", x.restore(k), -6);
        }
        for (int slot = 0; slot < 4; slot++) {
            Check.due("write(" + slot + ", 0, 0)", x.write(slot, 0, 0), -6);
            Check.due("paste of " + slot, x.paste(slot, 0, slot, 0, 0), -6);
        }
        Check.due("end(0)", x.end(0), 0);
        Check.due("end(1)", x.end(1), -1);
        Check.due("NONE", YearAgo.NONE, -1);
    }

    private static void newObjectsOwnNothing() {
        Check.promise("promise 1: another object's things are its own");
        YearAgo one = Check.market(HEAD + THING);
        one.feed(1, 1, 1, 1, 1);
        one.row(0, 0, 3);
        one.image(0);
        YearAgo other = new YearAgo();
        for (int what = 0; what <= 8; what++) {
            Check.due("count(" + what + ") of the other", other.count(what), 0);
        }
        Check.due("restore(0) of the other", other.restore(0), -6);
        Check.due("market() of the other", other.market(), 0);
        Check.due("price(0, 0) of the one", one.price(0, 0), 10);
        Check.due("count(5) of the one", one.count(5), 20);
    }

    private static void lastOfManyCalls() {
        Check.promise("an object is used for 512 calls");
        YearAgo x = new YearAgo();
        x.feed(0x6d61726b, 0x65742064, 0x61797320, 0x373b6361, 0x7020383b);
        x.market();
        for (int call = 3; call <= 511; call++) {
            Check.due("call " + call, x.count(0), 7);
        }
        Check.due("call 512", x.count(6), 8);
    }

    // ---- promise 2 ----

    private static void feedToTheFull() {
        Check.promise("promise 2: NONE, and none come, beyond 2,000");
        YearAgo x = new YearAgo();
        for (int i = 1; i <= 100; i++) {
            Check.due("feed " + i, x.feed(0x20202020, 0x20202020, 0x20202020, 0x20202020, 0x20202020), 20 * i);
        }
        Check.due("feed of a full tape", x.feed(0x61616161, 0x61616161, 0x61616161, 0x61616161, 0x61616161), -1);
        Check.due("count(5)", x.count(5), 2000);
        Check.due("none came: blanks alone", x.market(), 0);
        for (int size = 1981; size <= 2000; size++) {
            fill(x, size);
            Check.due("feed behind " + size, x.feed(0x61616161, 0, 0, 0, 0x61616161), -1);
            Check.due("count(5) behind it", x.count(5), size);
            Check.due("end beyond it", x.end(size + 1), -1);
            Check.due("none came behind " + size, x.market(), 0);
        }
        fill(x, 1980);
        Check.due("feed behind 1980", x.feed(0x20202020, 0x20202020, 0x20202020, 0x20202020, 0x20202061), 2000);
        Check.due("its last byte came", x.market(), -4);
        Check.due("as byte 1999", x.fault(1), 1999);
    }

    private static void fill(YearAgo x, int size) {
        for (int i = 0; i < 100; i++) {
            x.feed(0x20202020, 0x20202020, 0x20202020, 0x20202020, 0x20202020);
        }
        x.end(size);
    }

    private static void feedHighestFirst() {
        Check.promise("promise 2: four of each number, the highest first");
        for (int place = 0; place < 20; place++) {
            for (int strange = 0; strange < 256; strange += 255) {
                int[] five = {0x20202020, 0x20202020, 0x20202020, 0x20202020, 0x20202020};
                int shift = 24 - 8 * (place % 4);
                five[place / 4] = five[place / 4] & ~(255 << shift) | strange << shift;
                YearAgo x = new YearAgo();
                x.feed(0x20202020, 0x20202020, 0x20202020, 0x20202020, 0x20202020);
                Check.due("feed", x.feed(five[0], five[1], five[2], five[3], five[4]), 40);
                Check.due("byte " + strange + " is none of the tokens", x.market(), -4);
                Check.due("its fault", x.fault(0), 1);
                Check.due("its place", x.fault(1), 20 + place);
            }
        }
        YearAgo x = new YearAgo();
        x.feed(0x6d61726b, 0x65742064, 0x61797320, 0x373b6361, 0x7020383b);
        Check.due("market days 7;cap 8;", x.market(), 2);
        Check.due("days", x.count(0), 7);
        Check.due("cap", x.count(6), 8);
    }

    // ---- promise 3 ----

    private static void endCuts() {
        Check.promise("promise 3: the first n bytes alone");
        String text = HEAD + "cap 3;";
        for (int n = 0; n <= text.length(); n++) {
            YearAgo x = new YearAgo();
            Check.feed(x, text);
            Check.due("end(" + n + ")", x.end(n), n);
            Check.due("count(5)", x.count(5), n);
            Check.due("end(" + (n + 1) + ")", x.end(n + 1), -1);
            Check.due("end(" + n + ") again", x.end(n), n);
            int lines = n == text.length() ? 2 : n == HEAD.length() ? 1 : n == 0 ? 0 : -4;
            Check.due("market() of " + n + " bytes", x.market(), lines);
        }
        YearAgo x = new YearAgo();
        Check.feed(x, HEAD + "caps");
        x.end(HEAD.length());
        Check.due("feed behind what is left", x.feed(0x63617020, 0x353b2020, 0x20202020, 0x20202020, 0x20202020), 34);
        Check.due("market()", x.market(), 2);
        Check.due("the bytes cut away are gone", x.count(6), 5);
    }

    private static void endRefuses() {
        Check.promise("promise 3: NONE, and nothing happens");
        YearAgo x = new YearAgo();
        Check.edges("end of an empty tape", 0, 0, -1, x::end);
        Check.feed(x, HEAD);
        for (int n : new int[] {15, 16, 2000, 2001, Integer.MAX_VALUE, -1, -14, Integer.MIN_VALUE}) {
            Check.due("end(" + n + ")", x.end(n), -1);
            Check.due("count(5) behind it", x.count(5), 14);
        }
        Check.due("all bytes are there", x.market(), 1);
        Check.due("end(1) behind market()", x.end(1), -1);
        fill(x, 2000);
        Check.edges("end of a full tape", 2000, 2000, -1, n -> n == 1999 ? -1 : x.end(n));
        Check.due("end(1999)", x.end(1999), 1999);
        Check.due("end(2000)", x.end(2000), -1);
    }

    // ---- promise 4 ----

    private static void marketEmptiesTheTape() {
        Check.promise("promise 4: the TAPE is empty then");
        YearAgo x = new YearAgo();
        Check.due("market() of an empty tape", x.market(), 0);
        Check.due("good", Check.tell(x, HEAD), 1);
        Check.due("bytes", x.count(5), 0);
        Check.due("end(1)", x.end(1), -1);
        Check.due("bad", Check.tell(x, "x"), -4);
        Check.due("bytes behind a fault", x.count(5), 0);
        Check.due("end(1) behind a fault", x.end(1), -1);
        Check.due("the market stands", x.count(0), 4);
        Check.due("feed anew", x.feed(0x20202020, 0x20202020, 0x20202020, 0x20202020, 0x20202020), 20);
        Check.due("no lines: there is none then", x.market(), 0);
        for (int what = 0; what <= 8; what++) {
            Check.due("count(" + what + ")", x.count(what), 0);
        }
        Check.due("rich(0)", x.rich(0), -2);
        Check.due("turn()", x.turn(), -2);
        Check.due("most lines", Check.tell(x, HEAD + "cap 1;".repeat(331)), 332);
        Check.due("count(4)", x.count(4), 332);
        fill(x, 2000);
        Check.due("a full tape of blanks", x.market(), 0);
        Check.due("count(4) then", x.count(4), 0);
    }

    private static void marketInPlaceOfAnother() {
        Check.promise("promise 4: in place of another, nothing is MARKED");
        String small = HEAD + THING + SELLER + BUYER;
        long[] anew = Check.state(Check.market(small));
        YearAgo x = Check.market(ExtremesTest.greatest() + "cap 3;old 4 on 19 7;");
        x.mark(0, 0, 1);
        x.hold(0, 77);
        Check.due("marked", x.count(7), x.price(0, 0) == 1 ? 0 : 1);
        Check.due("another", Check.tell(x, small), 4);
        Check.stays("another market", x, anew);
        Check.due("thing 1", x.price(1, 0), -2);
        Check.due("day 4", x.price(0, 4), -2);
        Check.due("seller 1", x.best(1), -2);
        Check.due("buyer 1", x.cheapest(1), -2);
        Check.due("his last day", x.asked(0, 1), 0);
        Check.due("what grew of the one before", x.seller(0, 3) + x.seller(0, 2) + x.seller(0, 1), 1);
        x.mark(0, 0, 11);
        Check.due("marked again", x.count(7), 1);
        Check.tell(x, small);
        Check.stays("the same market anew", x, anew);
        x.mark(0, 0, 11);
        Check.tell(x, "");
        Check.due("no market, no mark", x.count(7), 0);
        Check.tell(x, small);
        Check.due("nor behind it", x.count(7), 0);
    }

    private static void faultLeavesAllElse() {
        Check.promise("promise 4: -4, all else stays");
        YearAgo x = Check.market(HEAD + THING + "was 0 on 1 12;old 0 on 2 8;" + SELLER + "grows 0 on 2 5;" + BUYER + "cap 7;");
        x.image(0);
        x.mark(0, 1, 3);
        x.mark(0, 3, 99);
        x.hold(0, 9);
        x.row(1, 0, 3);
        x.write(1, 2, 1);
        long[] before = Check.state(x);
        String[] bad = {"x", "market", "market days 3;", HEAD + THING + "thing", HEAD + "was 0 on 0 1;",
            HEAD + THING.repeat(5) + SELLER.repeat(5) + BUYER.repeat(7) + "cap 0;buyer"};
        for (String text : bad) {
            Check.due("market() of '" + text + "'", Check.tell(x, text), -4);
            long[] then = Check.state(x);
            // The latest FAULT and its place are of the text.
            then[9] = before[9];
            then[10] = before[10];
            Check.dueRow("what stays behind '" + text + "'", then, before);
        }
        Check.due("the row", x.agree(1, 0, 0), 2);
        Check.due("a good one strikes no row", Check.tell(x, HEAD + THING + BUYER), 3);
        Check.due("count(8)", x.count(8), 1);
        Check.due("agree", x.agree(1, 0, 0), 2);
        Check.due("nor an image", x.restore(0), 0);
        Check.due("its price", x.price(0, 1), 12);
    }

    // ---- promise 5 ----

    private static void faultOfTheLatest() {
        Check.promise("promise 5: of the latest market()");
        YearAgo x = new YearAgo();
        faults(x, "ahead of any", 0, -1);
        x.market();
        faults(x, "of nothing", 0, -1);
        Check.tell(x, " x");
        faults(x, "of a fault", 1, 1);
        Check.tell(x, HEAD + "cap 100;");
        faults(x, "of a later fault", 2, 18);
        Check.feed(x, HEAD);
        faults(x, "behind feed and end", 2, 18);
        x.image(0);
        x.restore(0);
        x.turn();
        x.row(0, 0, 1);
        faults(x, "behind other calls", 2, 18);
        x.market();
        faults(x, "without", 0, -1);
        Check.tell(x, HEAD + THING.repeat(6));
        faults(x, "of a 6th thing", 3, HEAD.length() + 5 * THING.length());
        x.market();
        faults(x, "of no lines", 0, -1);
    }

    private static void faults(YearAgo x, String when, int fault, int place) {
        Check.due("fault(0) " + when, x.fault(0), fault);
        Check.due("fault(1) " + when, x.fault(1), place);
        for (int what : new int[] {-1, 2, 3, Integer.MIN_VALUE, Integer.MAX_VALUE}) {
            Check.due("fault(" + what + ") " + when, x.fault(what), -1);
        }
    }

    private static void placesOnTheTape() {
        Check.promise("FAULTS: places from the first byte to the end's");
        bad("x", 1, 0);
        bad(" ".repeat(1999) + "x", 1, 1999);
        String full = HEAD + "cap 1;".repeat(330);
        bad(full + "cap 77", 1, 2000);
        bad(full + "cap77;", 0, -1);
        bad(full + "cap 7 ", 1, 2000);
        bad(full + "cap  7", 1, 2000);
        bad(full + " cap; ", 1, 1998);
        bad(full + "cap99 ", 1, 2000);
        bad(full + "cap999", 2, 1997);
        bad(full + "      ", 0, -1);
        bad("market days 4", 1, 13);
        bad("market days 4 \n ", 1, 16);
    }

    // ---- 'Terms' I: the numbers ----

    /** The low and the high end of a number as it stands in a text, and beyond them. */
    private static void bounds(String ahead, int low, int high, String behind) {
        bad(ahead + low + behind, 0, -1);
        bad(ahead + high + behind, 0, -1);
        bad(ahead + "000" + high + behind, 0, -1);
        if (low > 0) {
            bad(ahead + (low - 1) + behind, 2, ahead.length());
        }
        bad(ahead + (high + 1) + behind, 2, ahead.length());
        bad(ahead + "000" + (high + 1) + behind, 2, ahead.length());
        for (int bits : new int[] {8, 16, 31, 32, 63, 64, 128}) {
            // What an int or a long can't hold would be a good number, wrapped around.
            String wrapped = BigInteger.ONE.shiftLeft(bits).add(BigInteger.valueOf(high)).toString();
            bad(ahead + wrapped + behind, 2, ahead.length());
        }
        bad(ahead + "-" + low + behind, 1, ahead.length());
        bad(ahead + "x" + behind, 1, ahead.length());
    }

    private static void numbersOfLines() {
        Check.promise("Terms I: the bounds of every number of a LINE");
        bounds("market days ", 4, 20, ";");
        bounds(HEAD + "thing price ", 0, 99, " keeps 0;");
        bounds(HEAD + "thing price 0 keeps ", 0, 30, ";");
        for (String word : new String[] {"was", "old"}) {
            bounds(HEAD + THING + word + " ", 0, 0, " on 0 0;");
            bounds(HEAD + THING + THING + word + " ", 0, 1, " on 0 0;");
            bounds(HEAD + THING.repeat(5) + word + " ", 0, 4, " on 0 0;");
            bounds(HEAD + THING + word + " 0 on ", 0, 3, " 0;");
            bounds("market days 20;" + THING + word + " 0 on ", 0, 19, " 0;");
            bounds(HEAD + THING + word + " 0 on 0 ", 0, 99, ";");
        }
        bounds(HEAD + THING + "seller ", 0, 0, " has 0 asks 0;");
        bounds(HEAD + THING.repeat(5) + "seller ", 0, 4, " has 0 asks 0;");
        bounds(HEAD + THING + "seller 0 has ", 0, 99, " asks 0;");
        bounds(HEAD + THING + "seller 0 has 0 asks ", 0, 99, ";");
        bounds(HEAD + THING + SELLER + "grows ", 0, 0, " on 0 0;");
        bounds(HEAD + THING + SELLER + SELLER + "grows ", 0, 1, " on 0 0;");
        bounds(HEAD + THING + SELLER.repeat(5) + "grows ", 0, 4, " on 0 0;");
        bounds(HEAD + THING + SELLER + "grows 0 on ", 0, 3, " 0;");
        bounds("market days 20;" + THING + SELLER + "grows 0 on ", 0, 19, " 0;");
        bounds(HEAD + THING + SELLER + "grows 0 on 0 ", 0, 99, ";");
        bounds(HEAD + THING + "buyer ", 0, 0, " wants 1 pays 0 from 0 to 0 stores 0;");
        bounds(HEAD + THING.repeat(5) + "buyer ", 0, 4, " wants 1 pays 0 from 0 to 0 stores 0;");
        bounds(HEAD + THING + "buyer 0 wants ", 1, 9, " pays 0 from 0 to 0 stores 0;");
        bounds(HEAD + THING + "buyer 0 wants 1 pays ", 0, 99, " from 0 to 0 stores 0;");
        bounds(HEAD + THING + "buyer 0 wants 1 pays 0 from ", 0, 3, " to 3 stores 0;");
        bounds("market days 20;" + THING + "buyer 0 wants 1 pays 0 from ", 0, 19, " to 19 stores 0;");
        bounds(HEAD + THING + "buyer 0 wants 1 pays 0 from 0 to ", 0, 3, " stores 0;");
        bounds(HEAD + THING + "buyer 0 wants 1 pays 0 from 2 to ", 2, 3, " stores 0;");
        bounds(HEAD + THING + "buyer 0 wants 1 pays 0 from 3 to ", 3, 3, " stores 0;");
        bounds("market days 20;" + THING + "buyer 0 wants 1 pays 0 from 19 to ", 19, 19, " stores 0;");
        bounds(HEAD + THING + "buyer 0 wants 1 pays 0 from 0 to 0 stores ", 0, 30, ";");
        bounds(HEAD + "cap ", 0, 99, ";");
    }

    private static void toldAhead() {
        Check.promise("Terms I: a THING told ahead, a SELLER told ahead");
        String[] wanting = {"was 0 on 0 1;", "old 0 on 0 1;", SELLER, BUYER};
        for (String line : wanting) {
            int place = HEAD.length() + line.indexOf(' ') + 1;
            bad(HEAD + line, 2, place);
            bad(HEAD + line + THING, 2, place);
            bad(HEAD + THING + line, 0, -1);
        }
        String grows = "grows 0 on 0 1;";
        bad(HEAD + grows, 2, HEAD.length() + 6);
        bad(HEAD + THING + grows + SELLER, 2, HEAD.length() + THING.length() + 6);
        bad(HEAD + THING + SELLER + grows, 0, -1);
        // In a row of several things the number is of the seller, not of the thing.
        bad(HEAD + THING + THING + SELLER + "grows 1 on 0 1;", 2, HEAD.length() + 2 * THING.length() + SELLER.length() + 6);
    }

    private static void numbersReachTheMarket() {
        Check.promise("Terms I: the greatest and the least numbers are as told");
        YearAgo x = Check.market("market days 20;thing price 99 keeps 30;was 0 on 19 0;was 0 on 18 99;old 0 on 0 99;old 0 on 19 0;"
            + "seller 0 has 99 asks 99;grows 0 on 19 99;buyer 0 wants 9 pays 99 from 0 to 19 stores 30;cap 99;");
        Check.due("days", x.count(0), 20);
        Check.due("cap", x.count(6), 99);
        Check.due("price(0, 0)", x.price(0, 0), 99);
        Check.due("price(0, 18)", x.price(0, 18), 99);
        Check.due("price(0, 19)", x.price(0, 19), 0);
        Check.due("old(0, 0)", x.old(0, 0), 99);
        Check.due("old(0, 19)", x.old(0, 19), 0);
        Check.due("what he asks", x.hold(0, 99), 99);
        Check.due("offered(0, 0)", x.offered(0, 0), 99);
        Check.due("asked(0, 0)", x.asked(0, 0), 9);
        Check.due("asked(0, 19)", x.asked(0, 19), 9);
        Check.due("come(0, 19, 99)", x.come(0, 19, 99), 1);
        Check.due("what grows on the last day", x.seller(0, 3), 99);
        Check.due("eleven days of nine", x.seller(0, 1), 99);
        YearAgo y = Check.market("market days 4;thing price 0 keeps 0;was 0 on 1 1;seller 0 has 0 asks 0;"
            + "buyer 0 wants 1 pays 0 from 0 to 1 stores 0;cap 0;");
        Check.due("days", y.count(0), 4);
        Check.due("cap", y.count(6), 0);
        Check.due("price(0, 0)", y.price(0, 0), 0);
        Check.due("old(0, 3)", y.old(0, 3), 0);
        Check.due("what he asks", y.hold(0, 0), 0);
        Check.due("offered(0, 0)", y.offered(0, 0), 0);
        Check.due("asked(0, 0)", y.asked(0, 0), 1);
        Check.due("asked(0, 1)", y.asked(0, 1), 0);
        Check.due("cap 99 without", Check.market(HEAD).count(6), 99);
    }

    private static void numbersWrapAround() {
        Check.promise("Terms I: numbers of many digits");
        for (int digits = 1; digits <= 60; digits++) {
            bad(HEAD + "cap " + "9".repeat(digits) + ";", digits > 2 ? 2 : 0, digits > 2 ? HEAD.length() + 4 : -1);
            bad(HEAD + "cap " + "0".repeat(digits) + ";", 0, -1);
            bad(HEAD + "cap " + "0".repeat(digits) + "99;", 0, -1);
            bad(HEAD + "cap 1" + "0".repeat(digits) + ";", digits > 1 ? 2 : 0, digits > 1 ? HEAD.length() + 4 : -1);
        }
        bad("market days " + "0".repeat(1980) + "4;", 0, -1);
        bad("market days " + "9".repeat(1980) + ";", 2, 12);
    }

    // ---- 'Terms' I: how many ----

    private static void mostOfAll() {
        Check.promise("Terms I: THINGS 0 .. 4, SELLERS 0 .. 4, BUYERS 0 .. 6, as they stand");
        StringBuilder text = new StringBuilder(HEAD);
        for (int i = 0; i < 5; i++) {
            text.append("thing price ").append(10 + i).append(" keeps 0;");
            most(text, 1, i + 1);
        }
        for (int i = 0; i < 5; i++) {
            text.append("seller ").append(i).append(" has 1 asks ").append(20 + i).append(";");
            most(text, 2, i + 1);
        }
        for (int i = 0; i < 7; i++) {
            text.append("buyer ").append(i % 5).append(" wants ").append(1 + i).append(" pays 0 from 0 to 0 stores 0;");
            most(text, 3, i + 1);
        }
        YearAgo x = Check.market(text.toString());
        for (int i = 0; i < 5; i++) {
            Check.due("price(" + i + ", 0)", x.price(i, 0), 10 + i);
            Check.due("hold(" + i + ", 0)", x.hold(i, 0), 20 + i);
        }
        for (int i = 0; i < 7; i++) {
            Check.due("buyer(" + i + ", 2)", x.buyer(i, 2), 1 + i);
        }
        Check.due("price(5, 0)", x.price(5, 0), -2);
        Check.due("hold(5, 0)", x.hold(5, 0), -2);
        Check.due("buyer(7, 2)", x.buyer(7, 2), -2);
        String full = text.toString();
        Check.promise("FAULT 3: at its word");
        for (String word : new String[] {"thing", "seller", "buyer"}) {
            bad(full + word, 3, full.length());
            bad(full + "  " + word + " 999 x", 3, full.length() + 2);
            bad(full + word + " 0;", 3, full.length());
        }
        bad(full + "cap 1;" + THING, 3, full.length() + 6);
        bad(full + "was 0 on 0 1;old 4 on 3 1;grows 4 on 3 1;cap 1;", 0, -1);
        bad(full + "things 1;", 1, full.length());
    }

    private static void most(StringBuilder text, int what, int many) {
        YearAgo x = Check.market(text.toString());
        Check.due("count(" + what + ")", x.count(what), many);
    }

    private static void laterOnesStrike() {
        Check.promise("Terms I: later ones strike");
        YearAgo x = Check.market(HEAD + THING + THING + "was 0 on 1 1;was 1 on 1 2;was 0 on 2 3;was 0 on 1 4;"
            + "old 0 on 1 5;old 1 on 1 6;old 0 on 2 7;old 0 on 1 8;cap 1;"
            + SELLER + SELLER + "grows 0 on 1 1;grows 1 on 1 2;grows 0 on 2 3;grows 0 on 1 4;cap 2;");
        Check.due("price(0, 1)", x.price(0, 1), 4);
        Check.due("price(1, 1)", x.price(1, 1), 2);
        Check.due("price(0, 2)", x.price(0, 2), 3);
        Check.due("price(0, 3)", x.price(0, 3), 10);
        Check.due("old(0, 1)", x.old(0, 1), 8);
        Check.due("old(1, 1)", x.old(1, 1), 6);
        Check.due("old(0, 2)", x.old(0, 2), 7);
        Check.due("old(0, 3)", x.old(0, 3), 10);
        Check.due("what seller 0 has behind DAY 1", x.stock(0, 1), 1 + 4);
        Check.due("what seller 0 has behind DAY 2", x.stock(0, 2), 4 + 3);
        Check.due("what seller 1 has behind DAY 1", x.stock(1, 1), 1 + 2);
        Check.due("the cap", x.count(6), 2);
        YearAgo none = Check.market(HEAD + THING + SELLER + "grows 0 on 1 9;grows 0 on 1 0;cap 5;cap 0;was 0 on 0 9;was 0 on 0 0;");
        Check.due("by none", none.stock(0, 1), 1);
        Check.due("cap 0", none.count(6), 0);
        Check.due("price(0, 0)", none.price(0, 0), 0);
    }

    // ---- 'Terms' I: tokens ----

    private static void everyByte() {
        Check.promise("TOKENS: blanks (32, 10), words, numbers, the sign");
        for (int b = 0; b < 256; b++) {
            boolean blank = b == 32 || b == 10;
            boolean digit = b >= '0' && b <= '9';
            bad(HEAD + (char) b + "cap 3;", blank ? 0 : 1, blank ? -1 : 14);
            bad(HEAD + "cap 3" + (char) b + ";", blank || digit ? 0 : 1, blank || digit ? -1 : b == ';' ? 20 : 19);
            bad(HEAD + "cap 3;" + (char) b, blank ? 0 : 1, blank ? -1 : 20);
            bad((char) b + HEAD, blank ? 0 : 1, blank ? -1 : 0);
            bad("market" + (char) b + "days 4;", blank ? 0 : 1, blank ? -1 : b >= 'a' && b <= 'z' ? 0 : 6);
            bad("market days 4" + (char) b, b == ';' ? 0 : digit ? 2 : 1, b == ';' ? -1 : digit ? 12 : blank ? 14 : 13);
        }
    }

    private static void theLongest() {
        Check.promise("TOKENS: the longest");
        bad("market\ndays4;cap5;thing\n\nprice10keeps1;was0on0 1;", 0, -1);
        bad("marketdays 4;", 1, 0);
        bad("market da ys 4;", 1, 7);
        bad("market days 1 0;", 2, 12);
        bad("market days 4 0;", 1, 14);
        bad(HEAD + "capcap 1;", 1, 14);
        bad(HEAD + "ca p 1;", 1, 14);
        bad(HEAD + "cap 1 1;", 1, 20);
        bad(HEAD + "cap cap 1;", 1, 18);
        bad(HEAD + THING + "was 0on 0 1;", 0, -1);
        bad(HEAD + THING + "was 0 on 01;", 1, HEAD.length() + THING.length() + 11);
        bad(HEAD + THING + "was 0 on 0 1 ;\n ", 0, -1);
        bad(HEAD + ";", 1, 14);
        bad(HEAD + "cap 1;;", 1, 20);
        bad(";" + HEAD, 1, 0);
    }

    private static void wordsAhead() {
        Check.promise("FAULT 1: another word ahead of market, market behind the first LINE");
        String[] first = {THING, "was 0 on 0 1;", "old 0 on 0 1;", SELLER, "grows 0 on 0 1;", BUYER, "cap 1;", "days 4;", "on", "7", ";"};
        for (String line : first) {
            bad(line, 1, 0);
            bad(" \n" + line + HEAD, 1, 2);
        }
        bad(HEAD + HEAD, 1, 14);
        bad(HEAD + THING + " market", 1, HEAD.length() + THING.length() + 1);
        // Nor can any word stand where another is due.
        String[] words = {"market", "days", "thing", "price", "keeps", "was", "on", "old", "seller", "has", "asks", "grows",
            "buyer", "wants", "pays", "from", "to", "stores", "cap", "x", "7", ";"};
        String line = "buyer 0 wants 1 pays 1 from 0 to 0 stores 0;";
        String[] tokens = {"buyer", "0", "wants", "1", "pays", "1", "from", "0", "to", "0", "stores", "0", ";"};
        bad(HEAD + THING + line, 0, -1);
        for (int i = 1; i < tokens.length; i++) {
            for (String word : words) {
                boolean number = tokens[i].equals("0") || tokens[i].equals("1");
                if (!word.equals(tokens[i]) && !(number && word.equals("7"))) {
                    oneTokenOther(tokens, i, word);
                }
            }
        }
    }

    private static void oneTokenOther(String[] tokens, int i, String word) {
        StringBuilder text = new StringBuilder(HEAD + THING);
        int place = 0;
        for (int k = 0; k < tokens.length; k++) {
            place = k == i ? text.length() : place;
            text.append(k == i ? word : tokens[k]).append(' ');
        }
        bad(text.toString(), 1, place);
    }

    /** A text cut at each byte: a FAULT 1 at the end, or at the word that is cut. */
    private static void everyPrefix() {
        Check.promise("FAULT 1: a text that ends too early");
        String text = HEAD + "thing price 1 keeps 1;was 0 on 0 1;old 0 on 0 1;seller 0 has 1 asks 1;grows 0 on 0 1;" + BUYER + "cap 1;";
        int word = -1;
        for (int n = 0; n <= text.length(); n++) {
            char last = n > 0 ? text.charAt(n - 1) : ';';
            char next = n < text.length() ? text.charAt(n) : ' ';
            boolean inWord = Character.isLetter(last);
            word = inWord ? word < 0 ? n - 1 : word : -1;
            boolean cut = inWord && Character.isLetter(next) && !text.substring(word, n).equals("market");
            boolean good = last == ';';
            bad(text.substring(0, n), good ? 0 : 1, good ? -1 : cut ? word : n);
        }
    }

    private static void firstByPlace() {
        Check.promise("FAULTS: the first by its place");
        bad("market days 3", 2, 12);
        bad("market days 3;x", 2, 12);
        bad("market day 3;", 1, 7);
        bad(HEAD + "cap x;cap 100;", 1, 18);
        bad(HEAD + "cap 100;cap x;", 2, 18);
        bad(HEAD + "cap 100x;", 2, 18);
        bad(HEAD + THING.repeat(5) + "cap 100;" + THING, 2, HEAD.length() + 5 * THING.length() + 4);
        bad(HEAD + THING.repeat(6) + "cap 100;", 3, HEAD.length() + 5 * THING.length());
        bad(HEAD + THING.repeat(5) + "x" + THING, 1, HEAD.length() + 5 * THING.length());
        bad(HEAD + THING + "buyer 1 wants 0 pays 100 from 9 to 9 stores 31;", 2, HEAD.length() + THING.length() + 6);
        bad(HEAD + THING + "buyer 0 wants 0 pays 100 from 9 to 9 stores 31;", 2, HEAD.length() + THING.length() + 14);
        bad(HEAD + THING + "buyer 0 wants 1 pays 100 from 9 to 9 stores 31;", 2, HEAD.length() + THING.length() + 21);
        // A number where no number can stand is 1, how great it may be.
        bad(HEAD + "cap 1 100;", 1, 20);
        bad(HEAD + "100;", 1, 14);
        // What a LINE refused would have told is not told: the text is not read on.
        bad(HEAD + "thing price 100 keeps 1;was 0 on 0 1;", 2, 26);
    }

    /** A text's FAULT and place; 0 and -1 for a good one. */
    private static void bad(String text, int fault, int place) {
        YearAgo x = new YearAgo();
        int lines = Check.tell(x, text);
        String of = text.length() > 200 ? text.substring(0, 60) + " .. " + text.substring(text.length() - 60) : text;
        if (fault == 0) {
            int due = 0;
            for (int i = 0; i < text.length(); i++) {
                due += text.charAt(i) == ';' ? 1 : 0;
            }
            Check.due("market() of '" + of + "'", lines, due);
            Check.due("count(4)", x.count(4), due);
        } else {
            Check.due("market() of '" + of + "'", lines, -4);
            Check.due("no market of '" + of + "'", x.count(0), 0);
        }
        Check.due("fault of '" + of + "'", x.fault(0), fault);
        Check.due("place of '" + of + "'", x.fault(1), place);
    }
}
