import java.util.Arrays;

/** A market told as a text, where each thing is sold at what it cost a year ago to the day. */
public final class YearAgo {
    public static final int NONE = -1;

    private static final int NO_SUCH = -2;
    private static final int BELOW_NOTHING = -3;
    private static final int FAULTY = -4;
    private static final int HAS_NOTHING = -6;
    private static final int BEYOND = -7;
    private static final int OTHER_WIDTH = -8;
    private static final int NOTHING = -1000000;

    private static final int MOST_DAYS = 20;
    private static final int MOST_THINGS = 5;
    private static final int MOST_SELLERS = 5;
    private static final int MOST_BUYERS = 7;
    private static final int MOST_BYTES = 2000;
    private static final int MOST_NUMBERS = 60;
    private static final int TOP = 99;
    private static final int LONGEST_KEPT = 30;
    private static final int SLOTS = 4;
    private static final int IMAGES = 3;
    private static final int LAST_SEED = 2000000000;
    private static final int SEED_AS_IT_IS = 1;

    private static final int[] FACTORIAL = {1, 1, 2, 6, 24, 120, 720, 5040};

    private final Tape tape = new Tape();
    private final Reader reader = new Reader();
    private final Market now = new Market();
    private final Year year = new Year();
    private final Year trial = new Year();
    private final SellerAlone sellerAlone = new SellerAlone();
    private final BuyerAlone buyerAlone = new BuyerAlone();
    private final Market[] images = new Market[IMAGES];
    private final Row[] slots = new Row[SLOTS];
    private boolean yearKnown;

    public YearAgo() {
        yearKnown = false;
    }

    // ---- the text ----

    public int feed(int a, int b, int c, int d, int e) {
        if (tape.size + 20 > MOST_BYTES) {
            return NONE;
        }
        tape.addFour(a);
        tape.addFour(b);
        tape.addFour(c);
        tape.addFour(d);
        tape.addFour(e);
        return tape.size;
    }

    public int end(int n) {
        if (n < 0 || n > tape.size) {
            return NONE;
        }
        tape.size = n;
        return n;
    }

    public int market() {
        boolean good = reader.readAll(tape);
        tape.size = 0;
        if (!good) {
            return FAULTY;
        }
        now.take(reader.told);
        yearKnown = false;
        return now.lines;
    }

    public int fault(int what) {
        switch (what) {
            case 0:
                return reader.fault;
            case 1:
                return reader.place;
            default:
                return NONE;
        }
    }

    // ---- the year as it is ----

    public int price(int thing, int day) {
        return isThingDay(thing, day) ? now.things.price[cell(thing, day)] : NO_SUCH;
    }

    public int old(int thing, int day) {
        return isThingDay(thing, day) ? now.things.old[cell(thing, day)] : NO_SUCH;
    }

    public int offered(int thing, int day) {
        return isThingDay(thing, day) ? thisYear().offered[cell(thing, day)] : NO_SUCH;
    }

    public int asked(int thing, int day) {
        return isThingDay(thing, day) ? thisYear().asked[cell(thing, day)] : NO_SUCH;
    }

    public int sold(int thing, int day) {
        return isThingDay(thing, day) ? thisYear().sold[cell(thing, day)] : NO_SUCH;
    }

    public int seller(int seller, int what) {
        if (!isSeller(seller)) {
            return NO_SUCH;
        }
        Year run = thisYear();
        switch (what) {
            case 0:
                return run.earned[seller];
            case 1:
                return run.soldBy[seller];
            case 2:
                return run.spoiledOf[seller];
            case 3:
                return run.has[seller];
            case 4:
                return run.earned[seller] == 0 ? NONE : run.richestDay(1 << seller);
            default:
                return NO_SUCH;
        }
    }

    public int gets(int seller, int day) {
        return isSeller(seller) && isDay(day) ? thisYear().gets[cell(seller, day)] : NO_SUCH;
    }

    public int stock(int seller, int day) {
        return isSeller(seller) && isDay(day) ? thisYear().stock[cell(seller, day)] : NO_SUCH;
    }

    public int buyer(int buyer, int what) {
        if (!isBuyer(buyer)) {
            return NO_SUCH;
        }
        Year run = thisYear();
        switch (what) {
            case 0:
                return run.spent[buyer];
            case 1:
                return run.pieces[buyer];
            case 2:
                return now.buyers.wantsInAll(buyer) - run.pieces[buyer];
            default:
                return NO_SUCH;
        }
    }

    public int rich(int what) {
        if (!isMarket()) {
            return NO_SUCH;
        }
        Year run = thisYear();
        int all = (1 << now.sellers.size) - 1;
        switch (what) {
            case 0:
                return run.daysWithoutSale(now) == now.days ? NONE : run.richestDay(all);
            case 1:
                return run.takings(all, run.richestDay(all));
            case 2:
                return run.daysWithoutSale(now);
            case 3:
                return run.lotCount;
            default:
                return NO_SUCH;
        }
    }

    public int queue(int thing, int day) {
        if (!isThingDay(thing, day)) {
            return NO_SUCH;
        }
        int at = cell(thing, day);
        return Math.max(0, thisYear().asked[at] - thisYear().offered[at]);
    }

    public int spoils(int thing, int day) {
        return isThingDay(thing, day) ? thisYear().spoiled[cell(thing, day)] : NO_SUCH;
    }

    public int clears(int thing, int day) {
        if (!isThingDay(thing, day)) {
            return NO_SUCH;
        }
        int supply = thisYear().offered[cell(thing, day)];
        for (int n = TOP; n >= 0; n--) {
            if (now.buyers.wanted(thing, day, n) >= supply) {
                return n;
            }
        }
        return NONE;
    }

    public int village(int set, int what) {
        if (!isMarket() || set < 0 || set >= 1 << now.sellers.size) {
            return NO_SUCH;
        }
        Year run = thisYear();
        int inAll = 0;
        for (int day = 0; day < now.days; day++) {
            inAll += run.takings(set, day);
        }
        switch (what) {
            case 0:
                return inAll == 0 ? NONE : run.richestDay(set);
            case 1:
                return run.takings(set, run.richestDay(set));
            case 2:
                return inAll;
            default:
                return NO_SUCH;
        }
    }

    public int chance(int buyer, int day, int what) {
        if (!isBuyer(buyer) || !isDay(day) || !within(what, 0, 1)) {
            return NO_SUCH;
        }
        int thing = now.buyers.thing[buyer];
        int at = cell(thing, day);
        int price = now.things.price[at];
        int above = 0;
        int below = 1;
        if (now.buyers.comes(buyer, thing, day, price)) {
            int supply = thisYear().offered[at];
            above = ordersWithAll(buyer, day, price, supply);
            below = FACTORIAL[now.buyers.countComing(thing, day, price)];
        }
        int common = commonDivisor(above, below);
        int asked = what == 0 ? above : below;
        return common > 0 ? asked / common : asked;
    }

    // ---- other years ----

    public int asks(int seller) {
        if (!isSeller(seller)) {
            return NO_SUCH;
        }
        int was = now.sellers.asks[seller];
        int thing = now.sellers.thing[seller];
        int most = NONE;
        int by = 0;
        for (int n = 0; n <= TOP; n++) {
            // Asking more changes nothing until a PRICE is passed by it.
            if (n == 0 || costsSomeDay(thing, n - 1)) {
                now.sellers.asks[seller] = n;
                trial.run(now, SEED_AS_IT_IS);
                if (trial.earned[seller] > most) {
                    most = trial.earned[seller];
                    by = n;
                }
            }
        }
        now.sellers.asks[seller] = was;
        return by;
    }

    public int hold(int seller, int n) {
        if (!isSeller(seller) || !within(n, 0, TOP)) {
            return NO_SUCH;
        }
        int was = now.sellers.asks[seller];
        now.sellers.asks[seller] = n;
        yearKnown = false;
        return was;
    }

    public int poor(int buyer) {
        if (!isBuyer(buyer)) {
            return NO_SUCH;
        }
        // He wants a piece on each of his DAYS, so he must pay the dearest of
        // them; whatever he would pay beyond it makes the same YEAR.
        int dearest = dearestOf(buyer);
        int was = now.buyers.pays[buyer];
        now.buyers.pays[buyer] = dearest;
        trial.run(now, SEED_AS_IT_IS);
        now.buyers.pays[buyer] = was;
        return trial.pieces[buyer] == now.buyers.wantsInAll(buyer) ? dearest : NONE;
    }

    public int lots(int seed, int buyer) {
        return years(seed, 1, buyer);
    }

    public int years(int seed, int n, int buyer) {
        if (!isBuyer(buyer) || !within(seed, 0, LAST_SEED) || !within(n, 1, 20)) {
            return NO_SUCH;
        }
        int sum = 0;
        for (int i = 0; i < n; i++) {
            trial.run(now, seed + i);
            sum += trial.pieces[buyer];
        }
        return sum;
    }

    // ---- a seller alone, a buyer alone ----

    public int best(int seller) {
        if (!isSeller(seller)) {
            return NO_SUCH;
        }
        sellerAlone.load(now, seller);
        return sellerAlone.bring();
    }

    public int worth(int seller, int day) {
        if (!isSeller(seller) || !isDay(day)) {
            return NO_SUCH;
        }
        sellerAlone.load(now, seller);
        return sellerAlone.bring() - sellerAlone.bringWithout(day);
    }

    public int thursday(int seller) {
        if (!isSeller(seller)) {
            return NO_SUCH;
        }
        sellerAlone.load(now, seller);
        if (sellerAlone.bring() == 0) {
            return NONE;
        }
        int found = 0;
        int least = sellerAlone.bringWithout(0);
        for (int day = 1; day < now.days; day++) {
            int without = sellerAlone.bringWithout(day);
            if (without < least) {
                least = without;
                found = day;
            }
        }
        return found;
    }

    public int keeping(int seller, int n) {
        if (!isSeller(seller) || !within(n, 0, LONGEST_KEPT)) {
            return NO_SUCH;
        }
        sellerAlone.load(now, seller);
        sellerAlone.keeps = n;
        return sellerAlone.bring();
    }

    public int enough(int seller) {
        if (!isSeller(seller)) {
            return NO_SUCH;
        }
        int most = keeping(seller, LONGEST_KEPT);
        for (int n = 0; n < LONGEST_KEPT; n++) {
            if (keeping(seller, n) == most) {
                return n;
            }
        }
        return LONGEST_KEPT;
    }

    public int cheapest(int buyer) {
        return isBuyer(buyer) ? buyerAlone.plan(now, buyer) : NO_SUCH;
    }

    public int buys(int buyer, int day) {
        if (!isBuyer(buyer) || !isDay(day)) {
            return NO_SUCH;
        }
        buyerAlone.plan(now, buyer);
        return buyerAlone.bought[day];
    }

    public int crowd(int buyer) {
        if (!isBuyer(buyer)) {
            return NO_SUCH;
        }
        buyerAlone.plan(now, buyer);
        int found = 0;
        for (int day = 1; day < now.days; day++) {
            if (buyerAlone.bought[day] > buyerAlone.bought[found]) {
                found = day;
            }
        }
        return found;
    }

    // ---- marks ----

    public int mark(int thing, int day, int n) {
        if (!isThingDay(thing, day) || !within(n, 0, TOP)) {
            return NO_SUCH;
        }
        int at = cell(thing, day);
        now.things.mark[at] = Math.min(n, now.things.price[at] + now.cap);
        return now.things.mark[at];
    }

    public int turn() {
        if (!isMarket()) {
            return NO_SUCH;
        }
        int changes = markedOtherwise();
        now.things.turnYear();
        yearKnown = false;
        return changes;
    }

    public int made(int seller, int day, int n) {
        if (!isSeller(seller) || !isDay(day) || !within(n, 0, TOP)) {
            return NOTHING;
        }
        sellerAlone.load(now, seller);
        return bringAt(seller, day, n) - sellerAlone.bring();
    }

    public int least(int seller, int day, int gain) {
        if (!isSeller(seller) || !isDay(day) || !within(gain, 1, 9999)) {
            return NO_SUCH;
        }
        sellerAlone.load(now, seller);
        int goal = sellerAlone.bring() + gain;
        for (int n = 0; n <= TOP; n++) {
            if (bringAt(seller, day, n) >= goal) {
                return n;
            }
        }
        return NONE;
    }

    public int most(int seller) {
        if (!isSeller(seller)) {
            return NO_SUCH;
        }
        sellerAlone.load(now, seller);
        int thing = now.sellers.thing[seller];
        int most = sellerAlone.bring();
        int found = NONE;
        for (int day = 0; day < now.days; day++) {
            int top = Math.min(TOP, now.things.price[cell(thing, day)] + now.cap);
            for (int n = 0; n <= top; n++) {
                // What brings more is sold that DAY, and brings still more by one
                // more, as long as as much is ASKED.
                if (n == top || wantedFor(seller, day, n + 1) < wantedFor(seller, day, n)) {
                    int brings = bringAt(seller, day, n);
                    if (brings > most) {
                        most = brings;
                        found = 100 * day + n;
                    }
                }
            }
        }
        return found;
    }

    // ---- prices ----

    public int leap(int thing, int day, int law) {
        if (!isThingDay(thing, day)) {
            return NO_SUCH;
        }
        int that = now.things.price[cell(thing, day)];
        int next = now.things.price[cell(thing, day + 1 < now.days ? day + 1 : 0)];
        switch (law) {
            case 0:
                return that;
            case 1:
                return next;
            case 2:
                return (that + next) / 2;
            default:
                return NO_SUCH;
        }
    }

    public int passing(int thing, int what) {
        if (!isThing(thing) || !within(what, 0, 3)) {
            return NO_SUCH;
        }
        int most = 0;
        int found = NONE;
        for (int way = 0; way <= 1; way++) {
            for (int bought = 0; bought < now.days; bought++) {
                int last = Math.min(now.days - 1, bought + now.things.keeps[thing]);
                for (int sale = bought; sale <= last; sale++) {
                    int gain = passingGain(thing, way, bought, sale);
                    if (gain > most) {
                        most = gain;
                        found = (way * MOST_DAYS + bought) * MOST_DAYS + sale;
                    }
                }
            }
        }
        if (what == 0 || found == NONE) {
            return what == 0 ? most : NONE;
        }
        return passingPart(found, what);
    }

    public int like(int thing, int one, int n, int other, int k) {
        boolean there = isThing(thing) && isThing(one) && isThing(other);
        if (!there || !within(n, 0, 9) || !within(k, 0, 9) || n + k == 0) {
            return NO_SUCH;
        }
        int sum = 0;
        int[] price = now.things.price;
        for (int day = 0; day < now.days; day++) {
            int both = n * price[cell(one, day)] + k * price[cell(other, day)];
            price[cell(thing, day)] = both / (n + k);
            sum += price[cell(thing, day)];
        }
        yearKnown = false;
        return sum;
    }

    public int shape(int thing, int what) {
        if (!isThing(thing)) {
            return NO_SUCH;
        }
        switch (what) {
            case 0:
                return dearestDay(thing);
            case 1:
                return cheapestDay(thing);
            case 2:
                return priceChanges(thing);
            case 3:
                return longestAtOnePrice(thing);
            default:
                return NO_SUCH;
        }
    }

    public int dearer(int thing, int other) {
        if (!isThing(thing) || !isThing(other) || thing == other) {
            return NO_SUCH;
        }
        int found = 0;
        for (int day = 0; day < now.days; day++) {
            if (now.things.price[cell(thing, day)] > now.things.price[cell(other, day)]) {
                found++;
            }
        }
        return found;
    }

    // ---- crowds ----

    public int come(int thing, int day, int n) {
        if (!isThingDay(thing, day) || !within(n, 0, TOP)) {
            return NO_SUCH;
        }
        return now.buyers.countComing(thing, day, n);
    }

    public int agree(int slot, int thing, int day) {
        if (!isThingDay(thing, day)) {
            return NO_SUCH;
        }
        int refusal = refuseCrowds(slot);
        if (refusal != 0) {
            return refusal;
        }
        int found = 0;
        for (int n = 0; n <= TOP; n++) {
            if (crowdsAgree(slot, thing, day, n)) {
                found++;
            }
        }
        return found;
    }

    public int told(int slot, int thing, int day, int what) {
        if (!isThingDay(thing, day) || !within(what, 0, 1)) {
            return NO_SUCH;
        }
        int refusal = refuseCrowds(slot);
        if (refusal != 0) {
            return refusal;
        }
        for (int i = 0; i <= TOP; i++) {
            int n = what == 0 ? i : TOP - i;
            if (crowdsAgree(slot, thing, day, n)) {
                return n;
            }
        }
        return NONE;
    }

    public int odd(int slot) {
        int refusal = isMarket() ? refuseCrowds(slot) : NO_SUCH;
        if (refusal != 0) {
            return refusal;
        }
        Row row = slots[slot];
        if (row == null) {
            return HAS_NOTHING;
        }
        for (int i = 0; i + 2 < row.size; i += 3) {
            int thing = (int) row.numbers[i];
            int day = (int) row.numbers[i + 1];
            int cost = price(thing, day);
            if (come(thing, day, cost) != row.numbers[i + 2]) {
                return i / 3;
            }
        }
        return NONE;
    }

    // ---- what there is ----

    public int count(int what) {
        switch (what) {
            case 0:
                return now.days;
            case 1:
                return now.things.size;
            case 2:
                return now.sellers.size;
            case 3:
                return now.buyers.size;
            case 4:
                return now.lines;
            case 5:
                return tape.size;
            case 6:
                return now.cap;
            case 7:
                return markedOtherwise();
            case 8:
                return rowsThere();
            default:
                return NONE;
        }
    }

    public int image(int k) {
        if (!within(k, 0, IMAGES - 1)) {
            return NO_SUCH;
        }
        if (images[k] == null) {
            images[k] = new Market();
        }
        images[k].take(now);
        return 0;
    }

    public int restore(int k) {
        if (!within(k, 0, IMAGES - 1)) {
            return NO_SUCH;
        }
        if (images[k] == null) {
            return HAS_NOTHING;
        }
        now.take(images[k]);
        yearKnown = false;
        return 0;
    }

    // ---- slots ----

    public int row(int slot, int width, int n) {
        if (!isSlot(slot) || !within(width, 0, 3) || n > MOST_NUMBERS) {
            return NO_SUCH;
        }
        if (n < 0) {
            return BELOW_NOTHING;
        }
        if (slots[slot] == null) {
            slots[slot] = new Row();
        }
        slots[slot].begin(width, n);
        return 0;
    }

    public int write(int slot, int i, long v) {
        if (!isSlot(slot)) {
            return NO_SUCH;
        }
        Row row = slots[slot];
        if (row == null) {
            return HAS_NOTHING;
        }
        if (i < 0 || i >= row.size) {
            return BEYOND;
        }
        row.put(i, v);
        return 0;
    }

    public int paste(int slot, int i, int to, int k, int n) {
        if (!isSlot(slot) || !isSlot(to)) {
            return NO_SUCH;
        }
        Row from = slots[slot];
        Row target = slots[to];
        if (from == null || target == null) {
            return HAS_NOTHING;
        }
        if (from.width != target.width) {
            return OTHER_WIDTH;
        }
        if (!from.reaches(i, n) || !target.reaches(k, n)) {
            return BEYOND;
        }
        System.arraycopy(from.numbers, i, target.numbers, k, n);
        return 0;
    }

    // ---- what the calls ask first ----

    private static boolean within(int v, int low, int high) {
        return v >= low && v <= high;
    }

    private static int cell(int number, int day) {
        return number * MOST_DAYS + day;
    }

    private boolean isMarket() {
        return now.lines > 0;
    }

    private boolean isDay(int day) {
        return day >= 0 && day < now.days;
    }

    private boolean isThing(int thing) {
        return thing >= 0 && thing < now.things.size;
    }

    private boolean isThingDay(int thing, int day) {
        return isThing(thing) && isDay(day);
    }

    private boolean isSeller(int seller) {
        return seller >= 0 && seller < now.sellers.size;
    }

    private boolean isBuyer(int buyer) {
        return buyer >= 0 && buyer < now.buyers.size;
    }

    private static boolean isSlot(int slot) {
        return slot >= 0 && slot < SLOTS;
    }

    // ---- parts of the answers ----

    private Year thisYear() {
        if (!yearKnown) {
            year.run(now, SEED_AS_IT_IS);
            yearKnown = true;
        }
        return year;
    }

    /** In how many orders of those who come a BUYER who comes gets all that he wants. */
    private int ordersWithAll(int buyer, int day, int price, int supply) {
        Buyers buyers = now.buyers;
        int thing = buyers.thing[buyer];
        int others = buyers.countComing(thing, day, price) - 1;
        int found = 0;
        for (int ahead = 0; ahead < 1 << buyers.size; ahead++) {
            if (buyers.allCome(ahead, thing, day, price) && (ahead >> buyer & 1) == 0) {
                int first = Integer.bitCount(ahead);
                boolean all = buyers.wantsOf(ahead) + buyers.wants[buyer] <= supply;
                if (all && first <= others) {
                    found += FACTORIAL[first] * FACTORIAL[others - first];
                }
            }
        }
        return found;
    }

    private static int commonDivisor(int one, int other) {
        int a = one;
        int b = other;
        for (int step = 0; step < 100 && b != 0; step++) {
            int rest = a % b;
            a = b;
            b = rest;
        }
        return a;
    }

    private boolean costsSomeDay(int thing, int n) {
        for (int day = 0; day < now.days; day++) {
            if (now.things.price[cell(thing, day)] == n) {
                return true;
            }
        }
        return false;
    }

    private int dearestOf(int buyer) {
        int thing = now.buyers.thing[buyer];
        int found = 0;
        for (int day = now.buyers.from[buyer]; day <= now.buyers.to[buyer]; day++) {
            found = Math.max(found, now.things.price[cell(thing, day)]);
        }
        return found;
    }

    private int wantedFor(int seller, int day, int n) {
        return now.buyers.wanted(now.sellers.thing[seller], day, n);
    }

    /** BEST of the SELLER loaded, if his THING cost n on a DAY. */
    private int bringAt(int seller, int day, int n) {
        return sellerAlone.bringAt(day, n, wantedFor(seller, day, n));
    }

    private int passingGain(int thing, int way, int bought, int sale) {
        int[] price = now.things.price;
        int[] old = now.things.old;
        return way == 0
            ? old[cell(thing, sale)] - price[cell(thing, bought)]
            : price[cell(thing, sale)] - old[cell(thing, bought)];
    }

    private static int passingPart(int found, int what) {
        switch (what) {
            case 1:
                return found / MOST_DAYS % MOST_DAYS;
            case 2:
                return found % MOST_DAYS;
            default:
                return found / (MOST_DAYS * MOST_DAYS);
        }
    }

    private int dearestDay(int thing) {
        int found = 0;
        for (int day = 1; day < now.days; day++) {
            if (now.things.price[cell(thing, day)] > now.things.price[cell(thing, found)]) {
                found = day;
            }
        }
        return found;
    }

    private int cheapestDay(int thing) {
        int found = 0;
        for (int day = 1; day < now.days; day++) {
            if (now.things.price[cell(thing, day)] < now.things.price[cell(thing, found)]) {
                found = day;
            }
        }
        return found;
    }

    private boolean sameAsAhead(int thing, int day) {
        int[] price = now.things.price;
        return day > 0 && price[cell(thing, day)] == price[cell(thing, day - 1)];
    }

    private int priceChanges(int thing) {
        int found = 0;
        for (int day = 1; day < now.days; day++) {
            if (!sameAsAhead(thing, day)) {
                found++;
            }
        }
        return found;
    }

    private int longestAtOnePrice(int thing) {
        int longest = 0;
        int length = 0;
        for (int day = 0; day < now.days; day++) {
            length = sameAsAhead(thing, day) ? length + 1 : 1;
            longest = Math.max(longest, length);
        }
        return longest;
    }

    /** 0, or why a SLOT's row tells no CROWDS; its numbers are asked last. */
    private int refuseCrowds(int slot) {
        if (!isSlot(slot)) {
            return NO_SUCH;
        }
        Row row = slots[slot];
        if (row == null) {
            return HAS_NOTHING;
        }
        if (row.size % 3 != 0) {
            return NO_SUCH;
        }
        for (int i = 0; i + 1 < row.size; i += 3) {
            long thing = row.numbers[i];
            long day = row.numbers[i + 1];
            if (thing < 0 || thing >= now.things.size || day < 0 || day >= now.days) {
                return NO_SUCH;
            }
        }
        return 0;
    }

    private boolean crowdsAgree(int slot, int thing, int day, int n) {
        Row row = slots[slot];
        if (row == null) {
            return false;
        }
        int came = now.buyers.countComing(thing, day, n);
        for (int i = 0; i + 2 < row.size; i += 3) {
            boolean about = row.numbers[i] == thing && row.numbers[i + 1] == day;
            if (about && row.numbers[i + 2] != came) {
                return false;
            }
        }
        return true;
    }

    private int markedOtherwise() {
        int found = 0;
        for (int thing = 0; thing < now.things.size; thing++) {
            for (int day = 0; day < now.days; day++) {
                int marked = now.things.mark[cell(thing, day)];
                if (marked != NONE && marked != now.things.price[cell(thing, day)]) {
                    found++;
                }
            }
        }
        return found;
    }

    private int rowsThere() {
        int found = 0;
        for (int slot = 0; slot < SLOTS; slot++) {
            if (slots[slot] != null) {
                found++;
            }
        }
        return found;
    }

    // ---- the market and its parts ----

    private static final class Things {
        int size;
        final int[] keeps = new int[MOST_THINGS];
        final int[] price = new int[MOST_THINGS * MOST_DAYS];
        final int[] old = new int[MOST_THINGS * MOST_DAYS];
        /** What is MARKED, NONE where nothing is. */
        final int[] mark = new int[MOST_THINGS * MOST_DAYS];

        void add(int cost, int kept) {
            if (size >= MOST_THINGS) {
                return;
            }
            keeps[size] = kept;
            for (int day = 0; day < MOST_DAYS; day++) {
                price[cell(size, day)] = cost;
                old[cell(size, day)] = cost;
                mark[cell(size, day)] = NONE;
            }
            size++;
        }

        void turnYear() {
            for (int at = 0; at < size * MOST_DAYS; at++) {
                old[at] = price[at];
                if (mark[at] != NONE) {
                    price[at] = mark[at];
                }
                mark[at] = NONE;
            }
        }

        void take(Things other) {
            size = other.size;
            System.arraycopy(other.keeps, 0, keeps, 0, keeps.length);
            System.arraycopy(other.price, 0, price, 0, price.length);
            System.arraycopy(other.old, 0, old, 0, old.length);
            System.arraycopy(other.mark, 0, mark, 0, mark.length);
        }
    }

    private static final class Sellers {
        int size;
        final int[] thing = new int[MOST_SELLERS];
        final int[] has = new int[MOST_SELLERS];
        final int[] asks = new int[MOST_SELLERS];
        final int[] grows = new int[MOST_SELLERS * MOST_DAYS];

        void add(int what, int pieces, int least) {
            if (size >= MOST_SELLERS) {
                return;
            }
            thing[size] = what;
            has[size] = pieces;
            asks[size] = least;
            for (int day = 0; day < MOST_DAYS; day++) {
                grows[cell(size, day)] = 0;
            }
            size++;
        }

        int coming(int seller, int day) {
            return grows[cell(seller, day)] + (day == 0 ? has[seller] : 0);
        }

        void take(Sellers other) {
            size = other.size;
            System.arraycopy(other.thing, 0, thing, 0, thing.length);
            System.arraycopy(other.has, 0, has, 0, has.length);
            System.arraycopy(other.asks, 0, asks, 0, asks.length);
            System.arraycopy(other.grows, 0, grows, 0, grows.length);
        }
    }

    private static final class Buyers {
        int size;
        final int[] thing = new int[MOST_BUYERS];
        final int[] wants = new int[MOST_BUYERS];
        final int[] pays = new int[MOST_BUYERS];
        final int[] from = new int[MOST_BUYERS];
        final int[] to = new int[MOST_BUYERS];
        final int[] stores = new int[MOST_BUYERS];

        /** The numbers stand as the LINE tells them. */
        void add(int[] numbers) {
            if (size >= MOST_BUYERS || numbers.length < 6) {
                return;
            }
            thing[size] = numbers[0];
            wants[size] = numbers[1];
            pays[size] = numbers[2];
            from[size] = numbers[3];
            to[size] = numbers[4];
            stores[size] = numbers[5];
            size++;
        }

        boolean comes(int buyer, int what, int day, int cost) {
            return thing[buyer] == what && from[buyer] <= day && day <= to[buyer] && pays[buyer] >= cost;
        }

        int wanted(int what, int day, int cost) {
            int sum = 0;
            for (int buyer = 0; buyer < size; buyer++) {
                if (comes(buyer, what, day, cost)) {
                    sum += wants[buyer];
                }
            }
            return sum;
        }

        int countComing(int what, int day, int cost) {
            int found = 0;
            for (int buyer = 0; buyer < size; buyer++) {
                if (comes(buyer, what, day, cost)) {
                    found++;
                }
            }
            return found;
        }

        boolean allCome(int set, int what, int day, int cost) {
            for (int buyer = 0; buyer < size; buyer++) {
                if ((set >> buyer & 1) == 1 && !comes(buyer, what, day, cost)) {
                    return false;
                }
            }
            return true;
        }

        int wantsOf(int set) {
            int sum = 0;
            for (int buyer = 0; buyer < size; buyer++) {
                if ((set >> buyer & 1) == 1) {
                    sum += wants[buyer];
                }
            }
            return sum;
        }

        int wantsInAll(int buyer) {
            return wants[buyer] * (to[buyer] - from[buyer] + 1);
        }

        void take(Buyers other) {
            size = other.size;
            System.arraycopy(other.thing, 0, thing, 0, thing.length);
            System.arraycopy(other.wants, 0, wants, 0, wants.length);
            System.arraycopy(other.pays, 0, pays, 0, pays.length);
            System.arraycopy(other.from, 0, from, 0, from.length);
            System.arraycopy(other.to, 0, to, 0, to.length);
            System.arraycopy(other.stores, 0, stores, 0, stores.length);
        }
    }

    /** All that an IMAGE keeps; without LINES there is no MARKET, and all its sizes are 0. */
    private static final class Market {
        int lines;
        int days;
        int cap;
        final Things things = new Things();
        final Sellers sellers = new Sellers();
        final Buyers buyers = new Buyers();

        void empty() {
            lines = 0;
            days = 0;
            cap = 0;
            things.size = 0;
            sellers.size = 0;
            buyers.size = 0;
        }

        void take(Market other) {
            lines = other.lines;
            days = other.days;
            cap = other.cap;
            things.take(other.things);
            sellers.take(other.sellers);
            buyers.take(other.buyers);
        }
    }

    // ---- reading ----

    private static final class Tape {
        final char[] bytes = new char[MOST_BYTES];
        int size;

        void addFour(int four) {
            if (size + 4 > MOST_BYTES) {
                return;
            }
            for (int shift = 24; shift >= 0; shift -= 8) {
                bytes[size] = (char) (four >>> shift & 255);
                size++;
            }
        }
    }

    /** The TOKEN that stands now: its kind, its first byte's place and the place behind it. */
    private static final class Tokens {
        static final int END = 0;
        static final int WORD = 1;
        static final int NUMBER = 2;
        static final int OTHER = 3;
        /** Above all bounds, and far from what an int can't hold. */
        static final int TOO_GREAT = 1000000;

        int kind;
        int start;
        int behind;
        int value;

        void begin() {
            behind = 0;
        }

        void next(Tape tape) {
            start = behind;
            for (int i = behind; i < tape.size && isBlank(tape.bytes[i]); i++) {
                start = i + 1;
            }
            behind = start;
            value = 0;
            if (start >= tape.size) {
                kind = END;
                return;
            }
            char first = tape.bytes[start];
            if (isLetter(first)) {
                kind = WORD;
                for (int i = start; i < tape.size && isLetter(tape.bytes[i]); i++) {
                    behind = i + 1;
                }
            } else if (isDigit(first)) {
                kind = NUMBER;
                for (int i = start; i < tape.size && isDigit(tape.bytes[i]); i++) {
                    value = Math.min(TOO_GREAT, 10 * value + tape.bytes[i] - '0');
                    behind = i + 1;
                }
            } else {
                kind = OTHER;
                behind = start + 1;
            }
        }

        /** Whether it is what stands in a form from a place to another. */
        boolean isAs(Tape tape, String form, int from, int to) {
            if (behind - start != to - from || to > form.length()) {
                return false;
            }
            for (int i = 0; i < to - from; i++) {
                if (tape.bytes[start + i] != form.charAt(from + i)) {
                    return false;
                }
            }
            return true;
        }

        private static boolean isBlank(char c) {
            return c == 32 || c == 10;
        }

        private static boolean isLetter(char c) {
            return c >= 'a' && c <= 'z';
        }

        private static boolean isDigit(char c) {
            return c >= '0' && c <= '9';
        }
    }

    private static final class Reader {
        static final int MARKET = 0;
        static final int THING = 1;
        static final int WAS = 2;
        static final int OLD = 3;
        static final int SELLER = 4;
        static final int GROWS = 5;
        static final int BUYER = 6;
        static final int CAP = 7;
        static final int KINDS = 8;

        static final int NO_TOKEN_HERE = 1;
        static final int OUT_OF_BOUNDS = 2;
        static final int TOO_MANY = 3;

        final Market told = new Market();
        final Tokens token = new Tokens();
        final int[] numbers = new int[6];
        int numberCount;
        int fault = 0;
        int place = NONE;

        /** Great letters are numbers: lowestOf and highestOf tell their bounds. */
        private static String formOf(int kind) {
            switch (kind) {
                case MARKET:
                    return "market days Y ;";
                case THING:
                    return "thing price N keeps K ;";
                case WAS:
                    return "was T on D N ;";
                case OLD:
                    return "old T on D N ;";
                case SELLER:
                    return "seller T has N asks N ;";
                case GROWS:
                    return "grows S on D N ;";
                case BUYER:
                    return "buyer T wants W pays N from D to L stores K ;";
                default:
                    return "cap N ;";
            }
        }

        boolean readAll(Tape tape) {
            told.empty();
            token.begin();
            fault = 0;
            place = NONE;
            for (int line = 0; line <= MOST_BYTES; line++) {
                token.next(tape);
                if (token.kind == Tokens.END) {
                    return true;
                }
                readLine(tape);
                if (fault != 0) {
                    return false;
                }
            }
            return true;
        }

        private void readLine(Tape tape) {
            int kind = kindHere(tape);
            boolean first = told.lines == 0;
            if (kind == NONE || first != (kind == MARKET)) {
                refuse(NO_TOKEN_HERE);
                return;
            }
            if (isFull(kind)) {
                refuse(TOO_MANY);
                return;
            }
            readForm(tape, formOf(kind));
            if (fault == 0) {
                told.lines++;
                obey(kind);
            }
        }

        private int kindHere(Tape tape) {
            for (int kind = 0; kind < KINDS; kind++) {
                String form = formOf(kind);
                if (token.isAs(tape, form, 0, form.indexOf(' '))) {
                    return kind;
                }
            }
            return NONE;
        }

        private boolean isFull(int kind) {
            switch (kind) {
                case THING:
                    return told.things.size >= MOST_THINGS;
                case SELLER:
                    return told.sellers.size >= MOST_SELLERS;
                case BUYER:
                    return told.buyers.size >= MOST_BUYERS;
                default:
                    return false;
            }
        }

        private void readForm(Tape tape, String form) {
            numberCount = 0;
            int from = form.indexOf(' ') + 1;
            for (int i = from; i <= form.length() && fault == 0; i++) {
                if (i == form.length() || form.charAt(i) == ' ') {
                    readPart(tape, form, from, i);
                    from = i + 1;
                }
            }
        }

        private void readPart(Tape tape, String form, int from, int to) {
            token.next(tape);
            char sign = from < form.length() ? form.charAt(from) : ' ';
            if (sign >= 'A' && sign <= 'Z') {
                readNumber(sign);
            } else if (!token.isAs(tape, form, from, to)) {
                refuse(NO_TOKEN_HERE);
            }
        }

        private void readNumber(char sign) {
            if (token.kind != Tokens.NUMBER) {
                refuse(NO_TOKEN_HERE);
            } else if (token.value < lowestOf(sign) || token.value > highestOf(sign)) {
                refuse(OUT_OF_BOUNDS);
            } else if (numberCount < numbers.length) {
                numbers[numberCount] = token.value;
                numberCount++;
            }
        }

        private int lowestOf(char sign) {
            switch (sign) {
                case 'Y':
                    return 4;
                case 'W':
                    return 1;
                case 'L':
                    return numberCount > 0 ? numbers[numberCount - 1] : 0;
                default:
                    return 0;
            }
        }

        private int highestOf(char sign) {
            switch (sign) {
                case 'Y':
                    return MOST_DAYS;
                case 'W':
                    return 9;
                case 'K':
                    return LONGEST_KEPT;
                case 'T':
                    return told.things.size - 1;
                case 'S':
                    return told.sellers.size - 1;
                case 'D':
                case 'L':
                    return told.days - 1;
                default:
                    return TOP;
            }
        }

        private void refuse(int why) {
            fault = why;
            place = token.start;
        }

        private void obey(int kind) {
            switch (kind) {
                case MARKET:
                    told.days = numbers[0];
                    told.cap = TOP;
                    break;
                case THING:
                    told.things.add(numbers[0], numbers[1]);
                    break;
                case WAS:
                    told.things.price[cell(numbers[0], numbers[1])] = numbers[2];
                    break;
                case OLD:
                    told.things.old[cell(numbers[0], numbers[1])] = numbers[2];
                    break;
                case SELLER:
                    told.sellers.add(numbers[0], numbers[1], numbers[2]);
                    break;
                case GROWS:
                    told.sellers.grows[cell(numbers[0], numbers[1])] = numbers[2];
                    break;
                case BUYER:
                    told.buyers.add(numbers);
                    break;
                default:
                    told.cap = numbers[0];
                    break;
            }
        }
    }

    // ---- the year ----

    private static final class Year {
        final int[] offered = new int[MOST_THINGS * MOST_DAYS];
        final int[] asked = new int[MOST_THINGS * MOST_DAYS];
        final int[] sold = new int[MOST_THINGS * MOST_DAYS];
        final int[] spoiled = new int[MOST_THINGS * MOST_DAYS];
        final int[] gets = new int[MOST_SELLERS * MOST_DAYS];
        final int[] stock = new int[MOST_SELLERS * MOST_DAYS];
        /** Pieces not yet sold of each SELLER, by the DAY on which they came. */
        final int[] left = new int[MOST_SELLERS * MOST_DAYS];
        final int[] has = new int[MOST_SELLERS];
        final int[] earned = new int[MOST_SELLERS];
        final int[] soldBy = new int[MOST_SELLERS];
        final int[] spoiledOf = new int[MOST_SELLERS];
        final int[] spent = new int[MOST_BUYERS];
        final int[] pieces = new int[MOST_BUYERS];
        /** Those who come, in the order in which they get. */
        final int[] order = new int[MOST_BUYERS];
        int comers;
        int lotCount;
        long x;

        void run(Market market, int seed) {
            forget();
            x = seed;
            for (int day = 0; day < market.days; day++) {
                for (int seller = 0; seller < market.sellers.size; seller++) {
                    begin(market, seller, day);
                }
                for (int thing = 0; thing < market.things.size; thing++) {
                    trade(market, thing, day);
                }
                for (int seller = 0; seller < market.sellers.size; seller++) {
                    stock[cell(seller, day)] = has[seller];
                }
            }
        }

        /** Only what is added up: all else is told anew on each DAY. */
        private void forget() {
            Arrays.fill(spoiled, 0);
            Arrays.fill(gets, 0);
            Arrays.fill(has, 0);
            Arrays.fill(earned, 0);
            Arrays.fill(soldBy, 0);
            Arrays.fill(spoiledOf, 0);
            Arrays.fill(spent, 0);
            Arrays.fill(pieces, 0);
            lotCount = 0;
        }

        /** What a set of SELLERS (bits) gets on a DAY; SELLERS and DAYS that are not get 0. */
        int takings(int set, int day) {
            int sum = 0;
            for (int seller = 0; seller < MOST_SELLERS; seller++) {
                if ((set >> seller & 1) == 1) {
                    sum += gets[cell(seller, day)];
                }
            }
            return sum;
        }

        int richestDay(int set) {
            int found = 0;
            for (int day = 1; day < MOST_DAYS; day++) {
                if (takings(set, day) > takings(set, found)) {
                    found = day;
                }
            }
            return found;
        }

        int daysWithoutSale(Market market) {
            int found = 0;
            for (int day = 0; day < market.days; day++) {
                int bought = 0;
                for (int thing = 0; thing < market.things.size; thing++) {
                    bought += sold[cell(thing, day)];
                }
                if (bought == 0) {
                    found++;
                }
            }
            return found;
        }

        private void begin(Market market, int seller, int day) {
            int thing = market.sellers.thing[seller];
            int tooOld = day - market.things.keeps[thing] - 1;
            if (tooOld >= 0) {
                int gone = left[cell(seller, tooOld)];
                left[cell(seller, tooOld)] = 0;
                has[seller] -= gone;
                spoiledOf[seller] += gone;
                spoiled[cell(thing, day)] += gone;
            }
            int coming = market.sellers.coming(seller, day);
            left[cell(seller, day)] = coming;
            has[seller] += coming;
        }

        private void trade(Market market, int thing, int day) {
            int at = cell(thing, day);
            int price = market.things.price[at];
            offered[at] = supplyAt(market.sellers, thing, price);
            asked[at] = market.buyers.wanted(thing, day, price);
            sold[at] = Math.min(offered[at], asked[at]);
            gather(market.buyers, thing, day, price);
            if (asked[at] > offered[at]) {
                lotCount++;
                mix();
            }
            handOut(market.buyers, offered[at], price);
            sell(market.sellers, thing, day, sold[at], price);
        }

        private int supplyAt(Sellers sellers, int thing, int price) {
            int sum = 0;
            for (int seller = 0; seller < sellers.size; seller++) {
                if (sellers.thing[seller] == thing && sellers.asks[seller] <= price) {
                    sum += has[seller];
                }
            }
            return sum;
        }

        private void gather(Buyers buyers, int thing, int day, int price) {
            comers = 0;
            for (int buyer = 0; buyer < buyers.size; buyer++) {
                if (buyers.comes(buyer, thing, day, price)) {
                    order[comers] = buyer;
                    comers++;
                }
            }
        }

        private void mix() {
            for (int place = comers - 1; place >= 1; place--) {
                int other = draw(place + 1);
                int here = order[place];
                order[place] = order[other];
                order[other] = here;
            }
        }

        private int draw(int n) {
            x = (1103515245L * x + 12345L) % 2147483648L;
            return n > 0 ? (int) (x / 65536L % n) : 0;
        }

        private void handOut(Buyers buyers, int supply, int price) {
            int still = supply;
            for (int i = 0; i < comers; i++) {
                int buyer = order[i];
                int got = Math.min(still, buyers.wants[buyer]);
                pieces[buyer] += got;
                spent[buyer] += got * price;
                still -= got;
            }
        }

        private void sell(Sellers sellers, int thing, int day, int amount, int price) {
            int still = amount;
            for (int seller = 0; seller < sellers.size; seller++) {
                if (sellers.thing[seller] == thing && sellers.asks[seller] <= price) {
                    int his = Math.min(still, has[seller]);
                    takeOldest(seller, day, his);
                    has[seller] -= his;
                    soldBy[seller] += his;
                    earned[seller] += his * price;
                    gets[cell(seller, day)] = his * price;
                    still -= his;
                }
            }
        }

        private void takeOldest(int seller, int day, int amount) {
            int still = amount;
            for (int came = 0; came <= day && still > 0; came++) {
                int taken = Math.min(still, left[cell(seller, came)]);
                left[cell(seller, came)] -= taken;
                still -= taken;
            }
        }
    }

    // ---- alone ----

    private static final class SellerAlone {
        final int[] price = new int[MOST_DAYS];
        final int[] asked = new int[MOST_DAYS];
        final int[] coming = new int[MOST_DAYS];
        final int[] sells = new int[MOST_DAYS];
        final int[] left = new int[MOST_DAYS];
        final int[] order = new int[MOST_DAYS];
        int days;
        int keeps;

        void load(Market market, int seller) {
            int thing = market.sellers.thing[seller];
            days = market.days;
            keeps = market.things.keeps[thing];
            for (int day = 0; day < days; day++) {
                price[day] = market.things.price[cell(thing, day)];
                asked[day] = market.buyers.wanted(thing, day, price[day]);
                coming[day] = market.sellers.coming(seller, day);
            }
        }

        /**
         * The dearest DAYS first, each as much as can be beside those ahead of it:
         * what can be sold together is a matroid, so that this brings most.
         */
        int bring() {
            Arrays.fill(sells, 0);
            int ordered = orderDays();
            int sum = 0;
            for (int i = 0; i < ordered; i++) {
                int day = order[i];
                sells[day] = asked[day];
                sells[day] -= missing();
                sum += sells[day] * price[day];
            }
            return sum;
        }

        int bringWithout(int day) {
            int was = asked[day];
            asked[day] = 0;
            int sum = bring();
            asked[day] = was;
            return sum;
        }

        int bringAt(int day, int cost, int wanted) {
            int costWas = price[day];
            int askedWas = asked[day];
            price[day] = cost;
            asked[day] = wanted;
            int sum = bring();
            price[day] = costWas;
            asked[day] = askedWas;
            return sum;
        }

        /** DAYS that can bring something, the dearest first: how many. */
        private int orderDays() {
            int size = 0;
            for (int day = 0; day < days; day++) {
                if (price[day] > 0 && asked[day] > 0) {
                    int at = size;
                    for (int i = size - 1; i >= 0 && price[order[i]] < price[day]; i--) {
                        order[i + 1] = order[i];
                        at = i;
                    }
                    order[at] = day;
                    size++;
                }
            }
            return size;
        }

        /** How many pieces of what he is to sell he has not, if he always gives the oldest. */
        private int missing() {
            System.arraycopy(coming, 0, left, 0, MOST_DAYS);
            int sum = 0;
            for (int day = 0; day < days; day++) {
                int still = sells[day];
                for (int came = Math.max(0, day - keeps); came <= day && still > 0; came++) {
                    int taken = Math.min(still, left[came]);
                    left[came] -= taken;
                    still -= taken;
                }
                sum += still;
            }
            return sum;
        }
    }

    private static final class BuyerAlone {
        final int[] bought = new int[MOST_DAYS];

        /** What all costs at least; bought tells the DAYS. */
        int plan(Market market, int buyer) {
            Arrays.fill(bought, 0);
            Buyers buyers = market.buyers;
            int thing = buyers.thing[buyer];
            int ahead = Math.min(buyers.stores[buyer], market.things.keeps[thing]);
            int sum = 0;
            for (int day = buyers.from[buyer]; day <= buyers.to[buyer]; day++) {
                int best = day;
                for (int early = day - 1; early >= 0 && early >= day - ahead; early--) {
                    if (market.things.price[cell(thing, early)] < market.things.price[cell(thing, best)]) {
                        best = early;
                    }
                }
                bought[best] += buyers.wants[buyer];
                sum += buyers.wants[buyer] * market.things.price[cell(thing, best)];
            }
            return sum;
        }
    }

    // ---- a slot's row ----

    private static final class Row {
        final long[] numbers = new long[MOST_NUMBERS];
        int width;
        int size;

        void begin(int newWidth, int newSize) {
            width = newWidth;
            size = newSize;
            Arrays.fill(numbers, 0L);
        }

        void put(int i, long v) {
            switch (width) {
                case 0:
                    numbers[i] = (byte) v;
                    break;
                case 1:
                    numbers[i] = (short) v;
                    break;
                case 2:
                    numbers[i] = (int) v;
                    break;
                default:
                    numbers[i] = v;
                    break;
            }
        }

        boolean reaches(int i, int n) {
            return i >= 0 && n >= 0 && i <= size && n <= size - i;
        }
    }
}
