/** Promises 24, 25, 29, 34, 35, 38, 39, 49 and 50: marks, leaps, passing, likes, shapes, images. */
public final class PricesTest {
    private static final String TWO = "market days 4;thing price 10 keeps 0;thing price 20 keeps 2;was 0 on 3 25;was 1 on 0 3;";

    private PricesTest() {
    }

    public static void main(String[] args) {
        marks();
        turns();
        leaps();
        passing();
        likes();
        shapes();
        dearer();
        images();
        Check.finish();
    }

    private static void marks() {
        Check.promise("promise 24");
        YearAgo x = Check.market(TWO + "cap 4;");
        Check.due("mark(0, 0, 12)", x.mark(0, 0, 12), 12);
        Check.due("mark(0, 0, 14)", x.mark(0, 0, 14), 14);
        Check.due("mark(0, 0, 15)", x.mark(0, 0, 15), 14);
        Check.due("mark(0, 3, 99)", x.mark(0, 3, 99), 29);
        Check.due("mark(1, 0, 0)", x.mark(1, 0, 0), 0);
        Check.due("mark(0, 0, 100)", x.mark(0, 0, 100), -2);
        Check.due("mark(0, 0, -1)", x.mark(0, 0, -1), -2);
        Check.due("mark(2, 0, 1)", x.mark(2, 0, 1), -2);
        Check.due("mark(0, 4, 1)", x.mark(0, 4, 1), -2);
        Check.due("the price stays", x.price(0, 0), 10);
        YearAgo open = Check.market(TWO);
        Check.due("without a cap", open.mark(0, 0, 99), 99);
        YearAgo shut = Check.market(TWO + "cap 0;");
        Check.due("by a cap of 0", shut.mark(0, 0, 99), 10);
    }

    private static void turns() {
        Check.promise("promise 25");
        YearAgo x = Check.market(TWO + "old 1 on 2 77;cap 4;");
        x.mark(0, 0, 99);
        x.mark(0, 1, 10);
        x.mark(1, 3, 5);
        // The mark keeps to the PRICE as it was when it was made.
        x.like(0, 0, 0, 1, 1);
        Check.due("price by like", x.price(0, 0), 3);
        Check.due("turn()", x.turn(), 3);
        Check.due("price(0, 0)", x.price(0, 0), 14);
        Check.due("price(0, 1)", x.price(0, 1), 10);
        Check.due("price(0, 2)", x.price(0, 2), 20);
        Check.due("price(1, 3)", x.price(1, 3), 5);
        Check.due("old(0, 0)", x.old(0, 0), 3);
        Check.due("old(0, 1)", x.old(0, 1), 20);
        Check.due("old(1, 2)", x.old(1, 2), 20);
        Check.due("old(1, 3)", x.old(1, 3), 20);
        Check.due("nothing is marked", x.count(7), 0);
        Check.due("turn() again", x.turn(), 0);
        Check.due("old(0, 0) then", x.old(0, 0), 14);
        Check.due("price(0, 0) then", x.price(0, 0), 14);
        YearAgo year = Check.market(YearTest.FAIR);
        Check.due("ahead of it", year.seller(0, 0), 90);
        year.mark(0, 0, 16);
        Check.due("turn", year.turn(), 1);
        Check.due("the year is another", year.sold(0, 0), 0);
        Check.due("no things", Check.market("market days 4;").turn(), 0);
        Check.due("no market", new YearAgo().turn(), -2);
    }

    private static void leaps() {
        Check.promise("promise 29");
        YearAgo x = Check.market(TWO);
        int[][] due = {{0, 10, 10, 10}, {2, 10, 25, 17}, {3, 25, 10, 17}};
        for (int[] at : due) {
            for (int law = 0; law < 3; law++) {
                Check.due("leap(0, " + at[0] + ", " + law + ")", x.leap(0, at[0], law), at[1 + law]);
            }
        }
        Check.due("leap(1, 3, 1): the first comes", x.leap(1, 3, 1), 3);
        Check.due("leap(0, 4, 0)", x.leap(0, 4, 0), -2);
        Check.due("leap(0, -1, 0)", x.leap(0, -1, 0), -2);
        Check.due("leap(2, 0, 0)", x.leap(2, 0, 0), -2);
        Check.due("leap(0, 0, 3)", x.leap(0, 0, 3), -2);
        Check.due("leap(0, 0, -1)", x.leap(0, 0, -1), -2);
    }

    private static void passing() {
        Check.promise("promise 34");
        pass(YearTest.FAIR, 20, 3, 4, 0);
        String other = "market days 4;thing price 5 keeps 1;";
        pass(other, 0, -1, -1, -1);
        pass(other + "was 0 on 2 9;", 4, 1, 2, 1);
        pass(other + "old 0 on 2 9;", 4, 1, 2, 0);
        pass(other + "was 0 on 0 1;", 4, 0, 0, 0);
        pass(other + "old 0 on 3 1;", 4, 3, 3, 1);
        pass(other + "was 0 on 2 9;old 0 on 3 9;", 4, 2 + 0, 3, 0, "was 0 on 2 5;was 0 on 1 9;");
        pass("market days 4;thing price 5 keeps 0;was 0 on 0 1;old 0 on 3 50;was 0 on 3 50;", 4, 0, 0, 0);
        pass("market days 4;thing price 5 keeps 3;was 0 on 0 1;old 0 on 3 50;was 0 on 3 50;", 49, 0, 3, 0);
        YearAgo x = Check.market(other);
        Check.due("passing(0, 4)", x.passing(0, 4), -2);
        Check.due("passing(0, -1)", x.passing(0, -1), -2);
        Check.due("passing(1, 0)", x.passing(1, 0), -2);
    }

    private static void pass(String text, int gain, int bought, int sold, int way, String... more) {
        YearAgo x = Check.market(text + String.join("", more));
        Check.due("gain of " + text, x.passing(0, 0), gain);
        Check.due("bought of " + text, x.passing(0, 1), bought);
        Check.due("sold of " + text, x.passing(0, 2), sold);
        Check.due("way of " + text, x.passing(0, 3), way);
    }

    private static void likes() {
        Check.promise("promise 35");
        YearAgo x = Check.market(TWO + "seller 1 has 3 asks 20;buyer 1 wants 1 pays 99 from 1 to 1 stores 0;");
        Check.due("sold ahead of it", x.sold(1, 1), 1);
        Check.due("like(0, 0, 1, 1, 2)", x.like(0, 0, 1, 1, 2), 5 + 16 + 16 + 21);
        Check.due("price(0, 0)", x.price(0, 0), 5);
        Check.due("price(0, 3)", x.price(0, 3), 21);
        Check.due("old(0, 0)", x.old(0, 0), 10);
        Check.due("like(1, 0, 9, 1, 0)", x.like(1, 0, 9, 1, 0), 5 + 16 + 16 + 21);
        Check.due("the year is another", x.sold(1, 1), 0);
        Check.due("one twice", x.like(0, 0, 1, 0, 1), 58);
        Check.due("n and k are 0", x.like(0, 0, 0, 1, 0), -2);
        Check.due("n is 10", x.like(0, 0, 10, 1, 0), -2);
        Check.due("k is 10", x.like(0, 0, 0, 1, 10), -2);
        Check.due("n is below 0", x.like(0, 0, -1, 1, 2), -2);
        Check.due("k is below 0", x.like(0, 0, 2, 1, -1), -2);
        Check.due("no such thing", x.like(2, 0, 1, 1, 1), -2);
        Check.due("no such one", x.like(0, 2, 1, 1, 1), -2);
        Check.due("no such other", x.like(0, 0, 1, -1, 1), -2);
        Check.due("nothing happens", x.price(0, 0), 5);
    }

    private static void shapes() {
        Check.promise("promise 38");
        int[][] due = {{2, 0, 2, 2}, {3, 0, 1, 3}, {1, 0, 1, 3}, {0, 0, 0, 7}};
        String[] texts = {YearTest.FAIR, TWO, TWO, "market days 7;thing price 3 keeps 0;"};
        for (int i = 0; i < texts.length; i++) {
            YearAgo x = Check.market(texts[i]);
            for (int what = 0; what < 4; what++) {
                Check.due("shape of text " + i + ", " + what, x.shape(i == 2 ? 1 : 0, what), due[i][what]);
            }
        }
        YearAgo x = Check.market(TWO);
        Check.due("shape(0, 4)", x.shape(0, 4), -2);
        Check.due("shape(0, -1)", x.shape(0, -1), -2);
        Check.due("shape(2, 0)", x.shape(2, 0), -2);
        Check.due("shape(-1, 0)", x.shape(-1, 0), -2);
    }

    private static void dearer() {
        Check.promise("promise 39");
        YearAgo x = Check.market(TWO + "thing price 10 keeps 1;");
        Check.due("dearer(0, 1)", x.dearer(0, 1), 2);
        Check.due("dearer(1, 0)", x.dearer(1, 0), 2);
        Check.due("dearer(0, 2)", x.dearer(0, 2), 1);
        Check.due("dearer(2, 0)", x.dearer(2, 0), 0);
        Check.due("dearer(0, 0)", x.dearer(0, 0), -2);
        Check.due("dearer(0, 3)", x.dearer(0, 3), -2);
        Check.due("dearer(-1, 0)", x.dearer(-1, 0), -2);
    }

    private static void images() {
        Check.promise("promises 49 and 50");
        YearAgo x = new YearAgo();
        Check.due("image(-1)", x.image(-1), -2);
        Check.due("image(3)", x.image(3), -2);
        Check.due("restore(3)", x.restore(3), -2);
        Check.due("restore(-1)", x.restore(-1), -2);
        Check.due("restore(2)", x.restore(2), -6);
        Check.due("image(0) of no market", x.image(0), 0);
        Check.tell(x, YearTest.FAIR + "cap 4;");
        x.mark(0, 1, 13);
        Check.due("image(2)", x.image(2), 0);
        Check.due("restore(1)", x.restore(1), -6);
        x.hold(0, 50);
        x.mark(0, 2, 1);
        Check.due("nothing at 50", x.seller(0, 0), 0);
        x.turn();
        x.like(0, 0, 1, 0, 1);
        Check.due("restore(2)", x.restore(2), 0);
        Check.due("what he gets", x.seller(0, 0), 90);
        Check.due("price(0, 2)", x.price(0, 2), 20);
        Check.due("old(0, 4)", x.old(0, 4), 30);
        Check.due("the marks", x.count(7), 1);
        Check.due("what he asks", x.hold(0, 10), 10);
        Check.due("turn()", x.turn(), 1);
        Check.due("price(0, 1)", x.price(0, 1), 13);
        x.feed(0, 0, 0, 0, 0);
        x.row(1, 1, 1);
        Check.due("restore(0)", x.restore(0), 0);
        Check.due("no market", x.count(0), 0);
        Check.due("no price", x.price(0, 0), -2);
        Check.due("the tape stays", x.count(5), 20);
        Check.due("the slots stay", x.count(8), 1);
        Check.due("again restore(2)", x.restore(2), 0);
        Check.due("it has not changed", x.price(0, 1), 10);
        Check.due("its lines", x.count(4), 9);
        Check.due("its cap", x.count(6), 4);
        x.end(0);
        Check.tell(x, "market days 9;");
        Check.due("image(2) anew", x.image(2), 0);
        Check.tell(x, "market days 8;");
        x.restore(2);
        Check.due("days", x.count(0), 9);
        Check.tell(x, YearTest.FAIR);
        x.image(1);
        x.hold(0, 99);
        Check.due("nothing by 99", x.seller(0, 0), 0);
        x.restore(1);
        Check.due("the year is another at once", x.seller(0, 0), 90);
        Check.tell(x, YearTest.FAIR + "was 0 on 0 11;");
        Check.due("and by a market", x.seller(0, 0), 92);
    }
}
