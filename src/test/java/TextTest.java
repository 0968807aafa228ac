/** Promises 1 to 5 and 48: a new object, the tape, the market's text and its faults, counts. */
public final class TextTest {
    private static final String HEAD = "market days 5;";

    private TextTest() {
    }

    public static void main(String[] args) {
        newObject();
        tape();
        market();
        tokens();
        structureFaults();
        numberFaults();
        tooMany();
        faultStays();
        counts();
        Check.finish();
    }

    private static void newObject() {
        Check.promise("promise 1");
        YearAgo x = new YearAgo();
        Check.due("NONE", YearAgo.NONE, -1);
        for (int what = 0; what <= 8; what++) {
            Check.due("count(" + what + ")", x.count(what), 0);
        }
        Check.due("price(0, 0)", x.price(0, 0), -2);
        Check.due("rich(0)", x.rich(0), -2);
        Check.due("village(0, 2)", x.village(0, 2), -2);
        Check.due("turn()", x.turn(), -2);
        Check.due("fault(0)", x.fault(0), 0);
        Check.due("fault(1)", x.fault(1), -1);
    }

    private static void tape() {
        Check.promise("promises 2 and 3");
        YearAgo x = new YearAgo();
        for (int i = 1; i <= 100; i++) {
            Check.due("feed " + i, x.feed(0, 0, 0, 0, 0), 20 * i);
        }
        Check.due("feed beyond 2,000", x.feed(0, 0, 0, 0, 0), -1);
        Check.due("count(5)", x.count(5), 2000);
        Check.due("end(2001)", x.end(2001), -1);
        Check.due("end(-1)", x.end(-1), -1);
        Check.due("count(5) still", x.count(5), 2000);
        Check.due("end(1981)", x.end(1981), 1981);
        Check.due("feed that would have 2,001", x.feed(0, 0, 0, 0, 0), -1);
        Check.due("count(5) then", x.count(5), 1981);
        Check.due("end(1980)", x.end(1980), 1980);
        Check.due("feed up to 2,000", x.feed(0, 0, 0, 0, 0), 2000);
        Check.due("end(0)", x.end(0), 0);
        Check.due("end(0) again", x.end(0), 0);
        Check.due("end(1)", x.end(1), -1);
        // "mark" "et d" "ays " "5;  " with the highest byte first.
        Check.due("feed", x.feed(0x6d61726b, 0x65742064, 0x61797320, 0x353b2020, 0x20202020), 20);
        Check.due("market()", x.market(), 1);
        Check.due("count(0)", x.count(0), 5);
        // A byte above 127 is none of the tokens: place 15, behind end(16).
        x.feed(0x6d61726b, 0x65742064, 0x61797320, 0x353b20ff, 0);
        Check.due("end(16)", x.end(16), 16);
        Check.due("market() with byte 255", x.market(), -4);
        Check.due("fault(0)", x.fault(0), 1);
        Check.due("fault(1)", x.fault(1), 15);
    }

    private static void market() {
        Check.promise("promise 4");
        YearAgo x = new YearAgo();
        Check.due("market of nothing", x.market(), 0);
        Check.due("market", Check.tell(x, HEAD + "thing price 7 keeps 1;was 0 on 1 8;cap 4;cap 5;"), 5);
        Check.due("count(5)", x.count(5), 0);
        Check.due("count(4)", x.count(4), 5);
        Check.due("a later cap strikes", x.count(6), 5);
        Check.due("mark", x.mark(0, 0, 9), 9);
        Check.due("count(7)", x.count(7), 1);
        Check.due("a fault", Check.tell(x, HEAD + "cap"), -4);
        Check.due("the tape is empty", x.count(5), 0);
        Check.due("all else stays", x.price(0, 1), 8);
        Check.due("the mark too", x.count(7), 1);
        Check.due("the same market anew", Check.tell(x, HEAD + "thing price 7 keeps 1;"), 2);
        Check.due("nothing is marked", x.count(7), 0);
        Check.due("nothing else of the one before", x.price(0, 1), 7);
        Check.due("nor its cap", x.count(6), 99);
        x.mark(0, 0, 9);
        Check.due("blanks alone", Check.tell(x, " \n \n"), 0);
        Check.due("there is none then", x.price(0, 0), -2);
        Check.due("count(0)", x.count(0), 0);
        Check.due("count(7)", x.count(7), 0);
        Check.due("rich(1)", x.rich(1), -2);
        Check.due("without fault", x.fault(0), 0);
    }

    private static void tokens() {
        Check.promise("tokens");
        good("market days 4;", 1);
        good("market days 20;", 1);
        good("market days5;", 1);
        good("\n market\ndays\n\n5 ; ", 1);
        good("market days 0000000000000000000005;", 1);
        good(HEAD + "thing price 0keeps 30;", 2);
        good(HEAD + "thing price 99 keeps 0;was 0 on 4 99;old 0 on 0 0;seller 0 has 99 asks 99;grows 0 on 4 99;"
            + "buyer 0 wants 9 pays 99 from 4 to 4 stores 30;cap 0;", 8);
        bad("marketdays 5;", 1, 0);
        bad("marketz days 5;", 1, 0);
        bad("zmarket days 5;", 1, 0);
        bad("market days 5;cap 3z;", 1, 19);
        bad("market days 5;cap 3{;", 1, 19);
        bad("market days 5;caps 3;", 1, 14);
        bad("market days 5;Cap 3;", 1, 14);
        bad("market days 5;\tcap 3;", 1, 14);
        bad("market days 5;\rcap 3;", 1, 14);
        bad("market days 5;cap -3;", 1, 18);
        bad("market days 5;cap 3,", 1, 19);
        bad("market days 5;cap 3;\u00e9", 1, 20);
        bad("market days 5;cap 3;{", 1, 20);
        bad("market days 5;cap 3;`", 1, 20);
        bad("market days 5;cap 3:", 1, 19);
        bad("market days 5;cap 3/", 1, 19);
    }

    private static void structureFaults() {
        Check.promise("fault 1");
        bad("thing price 1 keeps 1;", 1, 0);
        bad("  cap 1;", 1, 2);
        bad("5;", 1, 0);
        bad(";", 1, 0);
        bad("market", 1, 6);
        bad("market  \n", 1, 9);
        bad("market days", 1, 11);
        bad("market days ;", 1, 12);
        bad("market days 5", 1, 13);
        bad("market days 5 \n", 1, 15);
        bad("market days 5 6;", 1, 14);
        bad("market day 5;", 1, 7);
        bad("market 5;", 1, 7);
        bad(HEAD + ";", 1, 14);
        bad(HEAD + "market days 5;", 1, 14);
        bad(HEAD + "7", 1, 14);
        bad(HEAD + "days 5;", 1, 14);
        bad(HEAD + "thing keeps 1 price 1;", 1, 20);
        bad(HEAD + "thing price 1;", 1, 27);
        bad(HEAD + "thing price keeps 1;", 1, 26);
        bad(HEAD + "thing price 1 keeps 1 cap 1;", 1, 36);
        // The first by its place, also where another one is behind it.
        bad(HEAD + "thing price 100 keeps x;", 2, 26);
        bad(HEAD + "thing x price 100;", 1, 20);
    }

    private static void numberFaults() {
        Check.promise("fault 2");
        bad("market days 3;", 2, 12);
        bad("market days 21;", 2, 12);
        bad("market days 4294967301;", 2, 12);
        bad("market days 99999999999999999999999999999999;", 2, 12);
        String thing = HEAD + "thing price 10 keeps 1;";
        int at = thing.length();
        bad(HEAD + "thing price 100 keeps 1;", 2, 26);
        bad(HEAD + "thing price 10 keeps 31;", 2, 35);
        bad(HEAD + "was 0 on 0 1;", 2, 18);
        bad(thing + "was 1 on 0 1;", 2, at + 4);
        bad(thing + "was 0 on 5 1;", 2, at + 9);
        bad(thing + "was 0 on 0 100;", 2, at + 11);
        bad(thing + "old 1 on 0 1;", 2, at + 4);
        bad(thing + "old 0 on 5 1;", 2, at + 9);
        bad(thing + "old 0 on 0 100;", 2, at + 11);
        bad(thing + "seller 1 has 1 asks 1;", 2, at + 7);
        bad(thing + "seller 0 has 100 asks 1;", 2, at + 13);
        bad(thing + "seller 0 has 1 asks 100;", 2, at + 20);
        bad(thing + "grows 0 on 0 1;", 2, at + 6);
        bad(thing + "cap 100;", 2, at + 4);
        String buyer = "buyer 0 wants 1 pays 1 from ";
        int from = at + buyer.length();
        bad(thing + "buyer 1 wants 1 pays 1 from 0 to 0 stores 0;", 2, at + 6);
        bad(thing + "buyer 0 wants 0 pays 1 from 0 to 0 stores 0;", 2, at + 14);
        bad(thing + "buyer 0 wants 10 pays 1 from 0 to 0 stores 0;", 2, at + 14);
        bad(thing + "buyer 0 wants 1 pays 100 from 0 to 0 stores 0;", 2, at + 21);
        bad(thing + buyer + "5 to 5 stores 0;", 2, from);
        bad(thing + buyer + "2 to 1 stores 0;", 2, from + 5);
        bad(thing + buyer + "2 to 5 stores 0;", 2, from + 5);
        bad(thing + buyer + "2 to 2 stores 31;", 2, from + 14);
        String seller = thing + "seller 0 has 1 asks 1;";
        bad(seller + "grows 1 on 0 1;", 2, seller.length() + 6);
        bad(seller + "grows 0 on 5 1;", 2, seller.length() + 11);
        bad(seller + "grows 0 on 0 100;", 2, seller.length() + 13);
        // Told ahead, not behind.
        bad(thing + "grows 0 on 0 1;seller 0 has 1 asks 1;", 2, at + 6);
    }

    private static void tooMany() {
        Check.promise("fault 3");
        String things = HEAD + "thing price 1 keeps 1;".repeat(5);
        good(things, 6);
        bad(things + " thing x", 3, things.length() + 1);
        String sellers = things + "seller 4 has 1 asks 1;".repeat(5);
        good(sellers, 11);
        bad(sellers + "seller 9", 3, sellers.length());
        String buyers = sellers + "buyer 4 wants 1 pays 1 from 0 to 4 stores 0;".repeat(7);
        good(buyers, 18);
        bad(buyers + "buyer", 3, buyers.length());
    }

    private static void faultStays() {
        Check.promise("promise 5");
        YearAgo x = new YearAgo();
        Check.due("fault(0) ahead of any", x.fault(0), 0);
        Check.due("fault(1) ahead of any", x.fault(1), -1);
        Check.due("fault(2)", x.fault(2), -1);
        Check.due("fault(-1)", x.fault(-1), -1);
        Check.tell(x, "market days 3;");
        Check.due("fault(0)", x.fault(0), 2);
        Check.due("fault(1)", x.fault(1), 12);
        Check.due("fault(2)", x.fault(2), -1);
        x.image(0);
        x.restore(0);
        Check.feed(x, "market days 4;");
        Check.due("fault(0) of the latest", x.fault(0), 2);
        x.market();
        Check.due("fault(0) without", x.fault(0), 0);
        Check.due("fault(1) without", x.fault(1), -1);
    }

    private static void counts() {
        Check.promise("promise 48");
        YearAgo x = Check.market(HEAD + "thing price 10 keeps 1;thing price 20 keeps 1;seller 0 has 1 asks 1;"
            + "buyer 0 wants 1 pays 1 from 0 to 0 stores 0;buyer 1 wants 1 pays 1 from 0 to 0 stores 0;"
            + "buyer 1 wants 1 pays 1 from 0 to 0 stores 0;");
        Check.due("days", x.count(0), 5);
        Check.due("things", x.count(1), 2);
        Check.due("sellers", x.count(2), 1);
        Check.due("buyers", x.count(3), 3);
        Check.due("lines", x.count(4), 7);
        Check.due("bytes", x.count(5), 0);
        x.feed(1, 2, 3, 4, 5);
        Check.due("bytes then", x.count(5), 20);
        Check.due("cap without", x.count(6), 99);
        x.mark(0, 0, 10);
        Check.due("marked as now", x.count(7), 0);
        x.mark(0, 0, 11);
        x.mark(1, 4, 3);
        Check.due("marked otherwise", x.count(7), 2);
        x.like(0, 1, 1, 1, 0);
        Check.due("a price is another now", x.count(7), 2);
        x.mark(0, 1, 20);
        Check.due("marked as it is now", x.count(7), 2);
        Check.due("rows", x.count(8), 0);
        x.row(3, 0, 0);
        x.row(1, 0, 5);
        x.row(1, 3, 6);
        Check.due("rows then", x.count(8), 2);
        Check.due("count(9)", x.count(9), -1);
        Check.due("count(-1)", x.count(-1), -1);
        x.end(0);
        x.market();
        Check.due("rows without a market", x.count(8), 2);
        Check.due("lines without a market", x.count(4), 0);
        Check.due("cap without a market", x.count(6), 0);
    }

    private static void good(String text, int lines) {
        YearAgo x = new YearAgo();
        Check.due("market() of '" + text + "'", Check.tell(x, text), lines);
        Check.due("its fault", x.fault(0), 0);
        Check.due("its place", x.fault(1), -1);
    }

    private static void bad(String text, int fault, int place) {
        YearAgo x = new YearAgo();
        Check.due("market() of '" + text + "'", Check.tell(x, text), -4);
        Check.due("fault of '" + text + "'", x.fault(0), fault);
        Check.due("place of '" + text + "'", x.fault(1), place);
        Check.due("lines", x.count(4), 0);
    }
}
