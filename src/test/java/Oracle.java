import java.util.ArrayList;
import java.util.Arrays;
import java.util.HashMap;
import java.util.List;
import java.util.Map;
import java.util.TreeMap;
import java.util.TreeSet;
import java.util.regex.Matcher;
import java.util.regex.Pattern;

/**
 * The document told a second time, slowly and with none of the program's short
 * cuts: pieces one by one, all orders of a lot, a flow of most worth, every n.
 */
final class Oracle {
    static final int NONE = -1;
    static final int NO = -2;

    /** A fault of the text, with its place. */
    static final class Fault extends Exception {
        private static final long serialVersionUID = 1L;
        final int number;
        final int place;

        Fault(int number, int place) {
            this.number = number;
            this.place = place;
        }
    }

    static final class Thing {
        int keeps;
        int[] price;
        int[] old;
        Integer[] mark;
    }

    static final class Seller {
        int thing;
        int has;
        int asks;
        int[] grows;
    }

    static final class Buyer {
        int thing;
        int wants;
        int pays;
        int from;
        int to;
        int stores;
    }

    static final class Market {
        int lines;
        int days;
        int cap;
        List<Thing> things = new ArrayList<>();
        List<Seller> sellers = new ArrayList<>();
        List<Buyer> buyers = new ArrayList<>();

        Market copy() {
            Market to = new Market();
            to.lines = lines;
            to.days = days;
            to.cap = cap;
            for (Thing t : things) {
                Thing c = new Thing();
                c.keeps = t.keeps;
                c.price = t.price.clone();
                c.old = t.old.clone();
                c.mark = t.mark.clone();
                to.things.add(c);
            }
            for (Seller s : sellers) {
                Seller c = new Seller();
                c.thing = s.thing;
                c.has = s.has;
                c.asks = s.asks;
                c.grows = s.grows.clone();
                to.sellers.add(c);
            }
            for (Buyer b : buyers) {
                Buyer c = new Buyer();
                c.thing = b.thing;
                c.wants = b.wants;
                c.pays = b.pays;
                c.from = b.from;
                c.to = b.to;
                c.stores = b.stores;
                to.buyers.add(c);
            }
            return to;
        }
    }

    static final class Row {
        int width;
        long[] numbers;
    }

    private String tape = "";
    private Market m = new Market();
    private int fault = 0;
    private int place = NONE;
    private final Market[] images = new Market[3];
    private final Row[] slots = new Row[4];

    // ---- the text ----

    private static final class Token {
        String text;
        int at;
    }

    private static List<Token> tokens(String text) {
        List<Token> found = new ArrayList<>();
        Matcher matcher = Pattern.compile("[a-z]+|[0-9]+|[^ \\n]", Pattern.DOTALL).matcher(text);
        while (matcher.find()) {
            Token t = new Token();
            t.text = matcher.group();
            t.at = matcher.start();
            found.add(t);
        }
        Token end = new Token();
        end.text = "";
        end.at = text.length();
        found.add(end);
        return found;
    }

    private List<Token> stream;
    private int at;

    private void word(String w) throws Fault {
        if (!stream.get(at).text.equals(w)) {
            throw new Fault(1, stream.get(at).at);
        }
        at++;
    }

    private int number(int low, int high) throws Fault {
        Token t = stream.get(at);
        if (!t.text.matches("[0-9]+")) {
            throw new Fault(1, t.at);
        }
        java.math.BigInteger v = new java.math.BigInteger(t.text);
        if (v.compareTo(java.math.BigInteger.valueOf(low)) < 0 || v.compareTo(java.math.BigInteger.valueOf(high)) > 0) {
            throw new Fault(2, t.at);
        }
        at++;
        return v.intValue();
    }

    private Market parse(String text) throws Fault {
        stream = tokens(text);
        at = 0;
        Market r = new Market();
        while (!stream.get(at).text.isEmpty()) {
            Token head = stream.get(at);
            if (r.lines == 0) {
                word("market");
                word("days");
                r.days = number(4, 20);
                r.cap = 99;
            } else if (head.text.equals("thing")) {
                if (r.things.size() == 5) {
                    throw new Fault(3, head.at);
                }
                at++;
                Thing t = new Thing();
                word("price");
                int p = number(0, 99);
                word("keeps");
                t.keeps = number(0, 30);
                t.price = new int[r.days];
                Arrays.fill(t.price, p);
                t.old = t.price.clone();
                t.mark = new Integer[r.days];
                r.things.add(t);
            } else if (head.text.equals("was") || head.text.equals("old")) {
                at++;
                int t = number(0, r.things.size() - 1);
                word("on");
                int d = number(0, r.days - 1);
                int n = number(0, 99);
                (head.text.equals("was") ? r.things.get(t).price : r.things.get(t).old)[d] = n;
            } else if (head.text.equals("seller")) {
                if (r.sellers.size() == 5) {
                    throw new Fault(3, head.at);
                }
                at++;
                Seller s = new Seller();
                s.thing = number(0, r.things.size() - 1);
                word("has");
                s.has = number(0, 99);
                word("asks");
                s.asks = number(0, 99);
                s.grows = new int[r.days];
                r.sellers.add(s);
            } else if (head.text.equals("grows")) {
                at++;
                int s = number(0, r.sellers.size() - 1);
                word("on");
                int d = number(0, r.days - 1);
                r.sellers.get(s).grows[d] = number(0, 99);
            } else if (head.text.equals("buyer")) {
                if (r.buyers.size() == 7) {
                    throw new Fault(3, head.at);
                }
                at++;
                Buyer b = new Buyer();
                b.thing = number(0, r.things.size() - 1);
                word("wants");
                b.wants = number(1, 9);
                word("pays");
                b.pays = number(0, 99);
                word("from");
                b.from = number(0, r.days - 1);
                word("to");
                b.to = number(b.from, r.days - 1);
                word("stores");
                b.stores = number(0, 30);
                r.buyers.add(b);
            } else if (head.text.equals("cap")) {
                at++;
                r.cap = number(0, 99);
            } else {
                throw new Fault(1, head.at);
            }
            word(";");
            r.lines++;
        }
        return r;
    }

    // ---- the year ----

    static final class Year {
        int[][] offered;
        int[][] asked;
        int[][] sold;
        int[][] spoiled;
        int[][] gets;
        int[][] stock;
        int[] spoiledOf;
        int[] soldBy;
        int[] left;
        int[] spent;
        int[] pieces;
        int lots;
    }

    private static boolean comes(Buyer b, int thing, int day, int price) {
        return b.thing == thing && day >= b.from && day <= b.to && b.pays >= price;
    }

    private static int askedAt(Market m, int thing, int day, int price) {
        int sum = 0;
        for (Buyer b : m.buyers) {
            sum += comes(b, thing, day, price) ? b.wants : 0;
        }
        return sum;
    }

    private static Year run(Market m, long seed) {
        Year y = new Year();
        int things = m.things.size();
        int sellers = m.sellers.size();
        y.offered = new int[things][m.days];
        y.asked = new int[things][m.days];
        y.sold = new int[things][m.days];
        y.spoiled = new int[things][m.days];
        y.gets = new int[sellers][m.days];
        y.stock = new int[sellers][m.days];
        y.spoiledOf = new int[sellers];
        y.soldBy = new int[sellers];
        y.left = new int[sellers];
        y.spent = new int[m.buyers.size()];
        y.pieces = new int[m.buyers.size()];
        long x = seed;
        // Each piece is the day on which it came; the oldest stand first.
        List<List<Integer>> pieces = new ArrayList<>();
        for (int s = 0; s < sellers; s++) {
            pieces.add(new ArrayList<>());
        }
        for (int day = 0; day < m.days; day++) {
            for (int s = 0; s < sellers; s++) {
                Seller seller = m.sellers.get(s);
                int keeps = m.things.get(seller.thing).keeps;
                int before = pieces.get(s).size();
                int today = day;
                pieces.get(s).removeIf(came -> came + keeps < today);
                int gone = before - pieces.get(s).size();
                y.spoiled[seller.thing][day] += gone;
                y.spoiledOf[s] += gone;
                for (int i = 0; i < seller.grows[day] + (day == 0 ? seller.has : 0); i++) {
                    pieces.get(s).add(day);
                }
            }
            for (int t = 0; t < things; t++) {
                int price = m.things.get(t).price[day];
                int offered = 0;
                for (int s = 0; s < sellers; s++) {
                    if (m.sellers.get(s).thing == t && m.sellers.get(s).asks <= price) {
                        offered += pieces.get(s).size();
                    }
                }
                List<Integer> order = new ArrayList<>();
                int asked = 0;
                for (int b = 0; b < m.buyers.size(); b++) {
                    if (comes(m.buyers.get(b), t, day, price)) {
                        order.add(b);
                        asked += m.buyers.get(b).wants;
                    }
                }
                y.offered[t][day] = offered;
                y.asked[t][day] = asked;
                if (asked > offered) {
                    y.lots++;
                    for (int p = order.size() - 1; p >= 1; p--) {
                        x = (1103515245L * x + 12345) % (1L << 31);
                        java.util.Collections.swap(order, p, (int) ((x / 65536) % (p + 1)));
                    }
                }
                int still = offered;
                for (int b : order) {
                    for (int i = 0; i < m.buyers.get(b).wants && still > 0; i++) {
                        still--;
                        y.pieces[b]++;
                        y.spent[b] += price;
                        y.sold[t][day]++;
                        sellOne(m, y, pieces, t, day, price);
                    }
                }
            }
            for (int s = 0; s < sellers; s++) {
                y.stock[s][day] = pieces.get(s).size();
                y.left[s] = pieces.get(s).size();
            }
        }
        return y;
    }

    private static void sellOne(Market m, Year y, List<List<Integer>> pieces, int thing, int day, int price) {
        for (int s = 0; s < m.sellers.size(); s++) {
            Seller seller = m.sellers.get(s);
            if (seller.thing == thing && seller.asks <= price && !pieces.get(s).isEmpty()) {
                pieces.get(s).remove(0);
                y.gets[s][day] += price;
                y.soldBy[s]++;
                return;
            }
        }
        throw new IllegalStateException("nothing to sell");
    }

    private static int sum(int[] a) {
        return Arrays.stream(a).sum();
    }

    private static int firstMost(int[] a) {
        int found = 0;
        for (int i = 1; i < a.length; i++) {
            if (a[i] > a[found]) {
                found = i;
            }
        }
        return found;
    }

    private static int firstLeast(int[] a) {
        int found = 0;
        for (int i = 1; i < a.length; i++) {
            if (a[i] < a[found]) {
                found = i;
            }
        }
        return found;
    }

    private int[] together(Year y, int set) {
        int[] sums = new int[m.days];
        for (int d = 0; d < m.days; d++) {
            for (int s = 0; s < m.sellers.size(); s++) {
                sums[d] += (set >> s & 1) == 1 ? y.gets[s][d] : 0;
            }
        }
        return sums;
    }

    // ---- a seller alone: a flow of most worth from arrivals to days ----

    private int best(int seller, int keeps, int without, int madeDay, int madePrice) {
        Seller s = m.sellers.get(seller);
        Thing t = m.things.get(s.thing);
        int[] price = t.price.clone();
        if (madeDay >= 0) {
            price[madeDay] = madePrice;
        }
        int[] come = s.grows.clone();
        come[0] += s.has;
        int[] want = new int[m.days];
        for (int d = 0; d < m.days; d++) {
            want[d] = d == without ? 0 : askedAt(m, s.thing, d, price[d]);
        }
        return flow(come, want, price, keeps);
    }

    private int best(int seller) {
        return best(seller, m.things.get(m.sellers.get(seller).thing).keeps, -1, -1, 0);
    }

    private int made(int seller, int day, int n) {
        return best(seller, m.things.get(m.sellers.get(seller).thing).keeps, -1, day, n) - best(seller);
    }

    /** The longest gaining path is added until none gains. */
    private static int flow(int[] come, int[] want, int[] price, int keeps) {
        int days = come.length;
        int[][] sent = new int[days][days];
        int[] used = new int[days];
        int[] served = new int[days];
        int worth = 0;
        while (true) {
            // gain[0][e]: reach arrival e; gain[1][d]: reach day d; from: the step back.
            int[][] gain = new int[2][days];
            int[][] from = new int[2][days];
            for (int e = 0; e < days; e++) {
                gain[0][e] = used[e] < come[e] ? 0 : Integer.MIN_VALUE;
                from[0][e] = -1;
                gain[1][e] = Integer.MIN_VALUE;
            }
            boolean moved = true;
            while (moved) {
                moved = false;
                for (int e = 0; e < days; e++) {
                    for (int d = e; d < days && d <= e + keeps; d++) {
                        if (gain[0][e] != Integer.MIN_VALUE && gain[1][d] == Integer.MIN_VALUE) {
                            gain[1][d] = 0;
                            from[1][d] = e;
                            moved = true;
                        }
                        if (gain[1][d] != Integer.MIN_VALUE && sent[e][d] > 0 && gain[0][e] == Integer.MIN_VALUE) {
                            gain[0][e] = 0;
                            from[0][e] = d;
                            moved = true;
                        }
                    }
                }
            }
            // A day's worth lies on its way out alone, so reaching a day is enough;
            // a day served already may also be left for a dearer one.
            int to = -1;
            int leave = -1;
            int most = 0;
            for (int d = 0; d < days; d++) {
                if (gain[1][d] != Integer.MIN_VALUE && served[d] < want[d] && price[d] > most) {
                    most = price[d];
                    to = d;
                }
            }
            if (to >= 0) {
                int d = to;
                while (true) {
                    int e = from[1][d];
                    sent[e][d]++;
                    if (from[0][e] < 0) {
                        used[e]++;
                        break;
                    }
                    sent[e][from[0][e]]--;
                    d = from[0][e];
                }
                served[to]++;
                worth += price[to];
                continue;
            }
            // No piece more: look for a swap from a cheap day to a dear one.
            int bestGain = 0;
            int[] back = null;
            for (int d0 = 0; d0 < days; d0++) {
                if (served[d0] == 0) {
                    continue;
                }
                int[] parent = new int[days];
                Arrays.fill(parent, -2);
                parent[d0] = -1;
                List<Integer> queue = new ArrayList<>(List.of(d0));
                for (int i = 0; i < queue.size(); i++) {
                    int d = queue.get(i);
                    for (int e = 0; e <= d; e++) {
                        if (sent[e][d] == 0) {
                            continue;
                        }
                        for (int d2 = e; d2 < days && d2 <= e + keeps; d2++) {
                            if (parent[d2] == -2) {
                                parent[d2] = d * 100 + e;
                                queue.add(d2);
                            }
                        }
                    }
                }
                for (int d = 0; d < days; d++) {
                    if (parent[d] >= 0 && served[d] < want[d] && price[d] - price[d0] > bestGain) {
                        bestGain = price[d] - price[d0];
                        back = parent;
                        to = d;
                        leave = d0;
                    }
                }
            }
            if (back == null) {
                return worth;
            }
            for (int d = to; d != leave; d = back[d] / 100) {
                sent[back[d] % 100][d]++;
                sent[back[d] % 100][back[d] / 100]--;
            }
            served[to]++;
            served[leave]--;
            worth += bestGain;
        }
    }

    // ---- a buyer alone ----

    private int[] purchases(int buyer) {
        Buyer b = m.buyers.get(buyer);
        Thing t = m.things.get(b.thing);
        int[] bought = new int[m.days];
        for (int d = b.from; d <= b.to; d++) {
            TreeMap<Integer, Integer> latestByPrice = new TreeMap<>();
            for (int e = 0; e <= d; e++) {
                if (d - e <= b.stores && d - e <= t.keeps) {
                    latestByPrice.put(t.price[e], e);
                }
            }
            bought[latestByPrice.firstEntry().getValue()] += b.wants;
        }
        return bought;
    }

    // ---- crowds ----

    private long crowdRefusal(int slot) {
        if (slots[slot] == null) {
            return -6;
        }
        long[] r = slots[slot].numbers;
        if (r.length % 3 != 0) {
            return NO;
        }
        for (int i = 0; i < r.length; i += 3) {
            if (r[i] < 0 || r[i] >= m.things.size() || r[i + 1] < 0 || r[i + 1] >= m.days) {
                return NO;
            }
        }
        return 0;
    }

    private long comers(int thing, int day, int n) {
        return m.buyers.stream().filter(b -> comes(b, thing, day, n)).count();
    }

    private TreeSet<Integer> agreeing(int slot, int thing, int day) {
        TreeSet<Integer> found = new TreeSet<>();
        long[] r = slots[slot].numbers;
        for (int n = 0; n <= 99; n++) {
            boolean all = true;
            for (int i = 0; i < r.length; i += 3) {
                if (r[i] == thing && r[i + 1] == day) {
                    all &= comers(thing, day, n) == r[i + 2];
                }
            }
            if (all) {
                found.add(n);
            }
        }
        return found;
    }

    // ---- chance: every order of those who come ----

    private long[] chance(int buyer, int day) {
        Buyer him = m.buyers.get(buyer);
        int price = m.things.get(him.thing).price[day];
        if (!comes(him, him.thing, day, price)) {
            return new long[] {0, 1};
        }
        List<Integer> who = new ArrayList<>();
        for (int b = 0; b < m.buyers.size(); b++) {
            if (comes(m.buyers.get(b), him.thing, day, price)) {
                who.add(b);
            }
        }
        int offered = run(m, 1).offered[him.thing][day];
        long[] counts = new long[2];
        orders(who, new ArrayList<>(), buyer, offered, counts);
        for (long f = counts[1]; f > 1; f--) {
            if (counts[0] % f == 0 && counts[1] % f == 0) {
                counts[0] /= f;
                counts[1] /= f;
            }
        }
        return counts;
    }

    private void orders(List<Integer> rest, List<Integer> done, int buyer, int offered, long[] counts) {
        if (rest.isEmpty()) {
            int still = offered;
            counts[1]++;
            for (int b : done) {
                int got = Math.min(still, m.buyers.get(b).wants);
                if (b == buyer && got == m.buyers.get(b).wants) {
                    counts[0]++;
                }
                still -= got;
            }
            return;
        }
        for (int i = 0; i < rest.size(); i++) {
            List<Integer> fewer = new ArrayList<>(rest);
            List<Integer> more = new ArrayList<>(done);
            more.add(fewer.remove(i));
            orders(fewer, more, buyer, offered, counts);
        }
    }

    // ---- the calls ----

    private boolean day(long d) {
        return d >= 0 && d < m.days;
    }

    private boolean thing(long t) {
        return t >= 0 && t < m.things.size();
    }

    private boolean sellerIs(long s) {
        return s >= 0 && s < m.sellers.size();
    }

    private boolean buyerIs(long b) {
        return b >= 0 && b < m.buyers.size();
    }

    private static boolean in(long v, long low, long high) {
        return v >= low && v <= high;
    }

    long answer(String call, long[] arg) {
        int[] a = new int[arg.length];
        for (int i = 0; i < a.length; i++) {
            a[i] = (int) arg[i];
        }
        switch (call) {
            case "feed":
                if (tape.length() > 1980) {
                    return NONE;
                }
                for (int v : a) {
                    for (int i = 3; i >= 0; i--) {
                        tape += (char) (v >> 8 * i & 0xFF);
                    }
                }
                return tape.length();
            case "end":
                if (a[0] < 0 || a[0] > tape.length()) {
                    return NONE;
                }
                tape = tape.substring(0, a[0]);
                return a[0];
            case "market":
                try {
                    fault = 0;
                    place = NONE;
                    m = parse(tape);
                    return m.lines;
                } catch (Fault f) {
                    fault = f.number;
                    place = f.place;
                    return -4;
                } finally {
                    tape = "";
                }
            case "fault":
                return a[0] == 0 ? fault : a[0] == 1 ? place : NONE;
            case "count":
                return counted(a[0]);
            case "image":
                if (!in(a[0], 0, 2)) {
                    return NO;
                }
                images[a[0]] = m.copy();
                return 0;
            case "restore":
                if (!in(a[0], 0, 2)) {
                    return NO;
                }
                if (images[a[0]] == null) {
                    return -6;
                }
                m = images[a[0]].copy();
                return 0;
            case "row":
            case "write":
            case "paste":
                return ofSlots(call, arg, a);
            case "agree":
            case "told":
            case "odd":
                return ofCrowds(call, a);
            case "price":
            case "old":
            case "offered":
            case "asked":
            case "sold":
            case "queue":
            case "spoils":
            case "clears":
            case "mark":
            case "leap":
            case "come":
                return thing(a[0]) && day(a[1]) ? ofThingDay(call, a) : NO;
            case "passing":
            case "like":
            case "shape":
            case "dearer":
                return thing(a[0]) ? ofThing(call, a) : NO;
            case "seller":
            case "gets":
            case "stock":
            case "best":
            case "worth":
            case "thursday":
            case "asks":
            case "hold":
            case "least":
            case "most":
            case "keeping":
            case "enough":
                return sellerIs(a[0]) ? ofSeller(call, a) : NO;
            case "made":
                return sellerIs(a[0]) && day(a[1]) && in(a[2], 0, 99) ? made(a[0], a[1], a[2]) : -1000000;
            case "buyer":
            case "cheapest":
            case "buys":
            case "crowd":
            case "poor":
            case "chance":
                return buyerIs(a[0]) ? ofBuyer(call, a) : NO;
            case "lots":
                return buyerIs(a[1]) && in(a[0], 0, 2000000000) ? run(m, a[0]).pieces[a[1]] : NO;
            case "years":
                if (!buyerIs(a[2]) || !in(a[0], 0, 2000000000) || !in(a[1], 1, 20)) {
                    return NO;
                }
                long all = 0;
                for (int i = 0; i < a[1]; i++) {
                    all += run(m, a[0] + i).pieces[a[2]];
                }
                return all;
            default:
                return m.lines == 0 ? NO : ofAll(call, a);
        }
    }

    private long counted(int what) {
        Map<Integer, Integer> counts = new HashMap<>();
        counts.put(0, m.days);
        counts.put(1, m.things.size());
        counts.put(2, m.sellers.size());
        counts.put(3, m.buyers.size());
        counts.put(4, m.lines);
        counts.put(5, tape.length());
        counts.put(6, m.cap);
        counts.put(7, changes());
        counts.put(8, (int) Arrays.stream(slots).filter(r -> r != null).count());
        return counts.getOrDefault(what, NONE);
    }

    private int changes() {
        int changes = 0;
        for (Thing t : m.things) {
            for (int d = 0; d < m.days; d++) {
                changes += t.mark[d] != null && t.mark[d] != t.price[d] ? 1 : 0;
            }
        }
        return changes;
    }

    private long ofAll(String call, int[] a) {
        Year y = run(m, 1);
        switch (call) {
            case "turn":
                int changes = changes();
                for (Thing t : m.things) {
                    t.old = t.price.clone();
                    for (int d = 0; d < m.days; d++) {
                        t.price[d] = t.mark[d] == null ? t.price[d] : t.mark[d];
                        t.mark[d] = null;
                    }
                }
                return changes;
            case "rich":
                int[] sums = together(y, 31);
                int[] pieces = new int[m.days];
                for (int[] of : y.sold) {
                    for (int d = 0; d < m.days; d++) {
                        pieces[d] += of[d];
                    }
                }
                switch (a[0]) {
                    case 0:
                        return sum(pieces) == 0 ? NONE : firstMost(sums);
                    case 1:
                        return Arrays.stream(sums).max().getAsInt();
                    case 2:
                        return Arrays.stream(pieces).filter(n -> n == 0).count();
                    case 3:
                        return y.lots;
                    default:
                        return NO;
                }
            case "village":
                if (a[0] < 0 || a[0] >> m.sellers.size() != 0) {
                    return NO;
                }
                int[] theirs = together(y, a[0]);
                switch (a[1]) {
                    case 0:
                        return sum(theirs) == 0 ? NONE : firstMost(theirs);
                    case 1:
                        return Arrays.stream(theirs).max().getAsInt();
                    case 2:
                        return sum(theirs);
                    default:
                        return NO;
                }
            default:
                throw new IllegalArgumentException(call);
        }
    }

    private long ofThingDay(String call, int[] a) {
        Thing t = m.things.get(a[0]);
        int d = a[1];
        Year y = run(m, 1);
        switch (call) {
            case "price":
                return t.price[d];
            case "old":
                return t.old[d];
            case "offered":
                return y.offered[a[0]][d];
            case "asked":
                return y.asked[a[0]][d];
            case "sold":
                return y.sold[a[0]][d];
            case "queue":
                return Math.max(0, y.asked[a[0]][d] - y.offered[a[0]][d]);
            case "spoils":
                return y.spoiled[a[0]][d];
            case "clears":
                int greatest = NONE;
                for (int n = 0; n <= 99; n++) {
                    greatest = askedAt(m, a[0], d, n) >= y.offered[a[0]][d] ? n : greatest;
                }
                return greatest;
            case "mark":
                if (!in(a[2], 0, 99)) {
                    return NO;
                }
                t.mark[d] = Math.min(a[2], t.price[d] + m.cap);
                return t.mark[d];
            case "leap":
                int next = t.price[(d + 1) % m.days];
                return a[2] == 0 ? t.price[d] : a[2] == 1 ? next : a[2] == 2 ? (t.price[d] + next) / 2 : NO;
            case "come":
                return in(a[2], 0, 99) ? comers(a[0], d, a[2]) : NO;
            default:
                throw new IllegalArgumentException(call);
        }
    }

    private long ofThing(String call, int[] a) {
        Thing t = m.things.get(a[0]);
        switch (call) {
            case "passing":
                if (!in(a[1], 0, 3)) {
                    return NO;
                }
                int[] found = {0, NONE, NONE, NONE};
                for (int way = 0; way < 2; way++) {
                    for (int b = 0; b < m.days; b++) {
                        for (int s = b; s < m.days; s++) {
                            int gain = way == 0 ? t.old[s] - t.price[b] : t.price[s] - t.old[b];
                            if (s - b <= t.keeps && gain > found[0]) {
                                found = new int[] {gain, b, s, way};
                            }
                        }
                    }
                }
                return found[a[1]];
            case "like":
                if (!thing(a[1]) || !thing(a[3]) || !in(a[2], 0, 9) || !in(a[4], 0, 9) || a[2] + a[4] == 0) {
                    return NO;
                }
                int[] made = new int[m.days];
                for (int d = 0; d < m.days; d++) {
                    made[d] = (a[2] * m.things.get(a[1]).price[d] + a[4] * m.things.get(a[3]).price[d]) / (a[2] + a[4]);
                }
                t.price = made;
                return sum(made);
            case "shape":
                int other = 0;
                int longest = 0;
                for (int d = 0; d < m.days; d++) {
                    other += d > 0 && t.price[d] != t.price[d - 1] ? 1 : 0;
                    int end = d;
                    while (end < m.days && t.price[end] == t.price[d]) {
                        end++;
                    }
                    longest = Math.max(longest, end - d);
                }
                switch (a[1]) {
                    case 0:
                        return firstMost(t.price);
                    case 1:
                        return firstLeast(t.price);
                    case 2:
                        return other;
                    case 3:
                        return longest;
                    default:
                        return NO;
                }
            case "dearer":
                if (!thing(a[1]) || a[0] == a[1]) {
                    return NO;
                }
                int dearer = 0;
                for (int d = 0; d < m.days; d++) {
                    dearer += t.price[d] > m.things.get(a[1]).price[d] ? 1 : 0;
                }
                return dearer;
            default:
                throw new IllegalArgumentException(call);
        }
    }

    private long ofSeller(String call, int[] a) {
        Seller s = m.sellers.get(a[0]);
        int keeps = m.things.get(s.thing).keeps;
        Year y = run(m, 1);
        switch (call) {
            case "seller":
                switch (a[1]) {
                    case 0:
                        return sum(y.gets[a[0]]);
                    case 1:
                        return y.soldBy[a[0]];
                    case 2:
                        return y.spoiledOf[a[0]];
                    case 3:
                        return y.left[a[0]];
                    case 4:
                        return sum(y.gets[a[0]]) == 0 ? NONE : firstMost(y.gets[a[0]]);
                    default:
                        return NO;
                }
            case "gets":
                return day(a[1]) ? y.gets[a[0]][a[1]] : NO;
            case "stock":
                return day(a[1]) ? y.stock[a[0]][a[1]] : NO;
            case "best":
                return best(a[0]);
            case "worth":
                return day(a[1]) ? best(a[0]) - best(a[0], keeps, a[1], -1, 0) : NO;
            case "thursday":
                int[] without = new int[m.days];
                for (int d = 0; d < m.days; d++) {
                    without[d] = best(a[0], keeps, d, -1, 0);
                }
                return best(a[0]) == 0 ? NONE : firstLeast(without);
            case "asks":
                int[] got = new int[100];
                int was = s.asks;
                for (int n = 0; n <= 99; n++) {
                    s.asks = n;
                    got[n] = sum(run(m, 1).gets[a[0]]);
                }
                s.asks = was;
                return firstMost(got);
            case "hold":
                if (!in(a[1], 0, 99)) {
                    return NO;
                }
                int asked = s.asks;
                s.asks = a[1];
                return asked;
            case "least":
                if (!day(a[1]) || !in(a[2], 1, 9999)) {
                    return NO;
                }
                for (int n = 0; n <= 99; n++) {
                    if (made(a[0], a[1], n) >= a[2]) {
                        return n;
                    }
                }
                return NONE;
            case "most":
                int most = 0;
                int where = NONE;
                for (int d = 0; d < m.days; d++) {
                    for (int n = 0; n <= 99 && n <= m.things.get(s.thing).price[d] + m.cap; n++) {
                        int gain = made(a[0], d, n);
                        if (gain > most) {
                            most = gain;
                            where = 100 * d + n;
                        }
                    }
                }
                return where;
            case "keeping":
                return in(a[1], 0, 30) ? best(a[0], a[1], -1, -1, 0) : NO;
            case "enough":
                int n = 0;
                while (best(a[0], n, -1, -1, 0) != best(a[0], 30, -1, -1, 0)) {
                    n++;
                }
                return n;
            default:
                throw new IllegalArgumentException(call);
        }
    }

    private long ofBuyer(String call, int[] a) {
        Buyer b = m.buyers.get(a[0]);
        Year y = run(m, 1);
        int inAll = b.wants * (b.to - b.from + 1);
        switch (call) {
            case "buyer":
                switch (a[1]) {
                    case 0:
                        return y.spent[a[0]];
                    case 1:
                        return y.pieces[a[0]];
                    case 2:
                        return inAll - y.pieces[a[0]];
                    default:
                        return NO;
                }
            case "cheapest":
                int[] bought = purchases(a[0]);
                int cost = 0;
                for (int d = 0; d < m.days; d++) {
                    cost += bought[d] * m.things.get(b.thing).price[d];
                }
                return cost;
            case "buys":
                return day(a[1]) ? purchases(a[0])[a[1]] : NO;
            case "crowd":
                return firstMost(purchases(a[0]));
            case "poor":
                int was = b.pays;
                int least = NONE;
                for (int n = 99; n >= 0; n--) {
                    b.pays = n;
                    least = run(m, 1).pieces[a[0]] == inAll ? n : least;
                }
                b.pays = was;
                return least;
            case "chance":
                return day(a[1]) && in(a[2], 0, 1) ? chance(a[0], a[1])[a[2]] : NO;
            default:
                throw new IllegalArgumentException(call);
        }
    }

    private long ofCrowds(String call, int[] a) {
        boolean one = call.equals("odd");
        if (!in(a[0], 0, 3) || m.lines == 0 || !one && (!thing(a[1]) || !day(a[2]))
            || call.equals("told") && !in(a[3], 0, 1)) {
            return NO;
        }
        if (crowdRefusal(a[0]) != 0) {
            return crowdRefusal(a[0]);
        }
        if (one) {
            long[] r = slots[a[0]].numbers;
            for (int i = 0; i < r.length; i += 3) {
                int t = (int) r[i];
                int d = (int) r[i + 1];
                if (comers(t, d, m.things.get(t).price[d]) != r[i + 2]) {
                    return i / 3;
                }
            }
            return NONE;
        }
        TreeSet<Integer> found = agreeing(a[0], a[1], a[2]);
        if (call.equals("agree")) {
            return found.size();
        }
        return found.isEmpty() ? NONE : a[3] == 0 ? found.first() : found.last();
    }

    private long ofSlots(String call, long[] arg, int[] a) {
        if (!in(a[0], 0, 3)) {
            return NO;
        }
        switch (call) {
            case "row":
                if (!in(a[1], 0, 3) || a[2] > 60) {
                    return NO;
                }
                if (a[2] < 0) {
                    return -3;
                }
                slots[a[0]] = new Row();
                slots[a[0]].width = a[1];
                slots[a[0]].numbers = new long[a[2]];
                return 0;
            case "write":
                if (slots[a[0]] == null) {
                    return -6;
                }
                if (!in(a[1], 0, slots[a[0]].numbers.length - 1)) {
                    return -7;
                }
                int bits = 8 << slots[a[0]].width;
                slots[a[0]].numbers[a[1]] = arg[2] << 64 - bits >> 64 - bits;
                return 0;
            default:
                if (!in(a[2], 0, 3)) {
                    return NO;
                }
                if (slots[a[0]] == null || slots[a[2]] == null) {
                    return -6;
                }
                if (slots[a[0]].width != slots[a[2]].width) {
                    return -8;
                }
                long[] from = slots[a[0]].numbers.clone();
                long[] to = slots[a[2]].numbers;
                if (a[1] < 0 || a[3] < 0 || a[4] < 0
                    || (long) a[1] + a[4] > from.length || (long) a[3] + a[4] > to.length) {
                    return -7;
                }
                for (int i = 0; i < a[4]; i++) {
                    to[a[3] + i] = from[a[1] + i];
                }
                return 0;
        }
    }
}
