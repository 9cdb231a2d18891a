import java.util.Arrays;

/** Cargoes that are sold on and on while they sail; ../shared/DOC.md says what each call answers. */
public final class RailCargo {
    public static final int NONE = -1, BAD = -2, STATE = -3, FULL = -4;
    public static final long NO = -4611686018427387904L;

    private static final int NONE_SUCH = -5, FAULT_BASE = -100;
    private static final int NOTHING = -11, OUTSIDE = -12, OTHER_SORT = -13, BELOW_ZERO = -14;

    private static final int HANDS = 10, LAST_HOUR = 999, NOT_YET = 1000, MOST = 999;
    private static final int CARGOES = 4, SALES = 24, TEXTS = 6, SHEETS = 4;
    private static final int MOST_PAID = 999999, MOST_LATE = 9999;
    private static final int SHEET_ROOM = 40, SORTS = 3, MISSING = -1, SALE_CELLS = 5, SALES_AT_ONCE = 8;

    private static final int LOADED = 0, LANDED = 1, APART = 2, CARGO_HOURS = 3;
    private static final int SALE_KIND = 0, RAIL_KIND = 1, LANDED_KIND = 2, PAPER_KIND = 3, HEAP_KIND = 4,
            STRING_KIND = 5, KINDS = 6;
    /** The kind that each kind stands under. */
    private static final int[] UNDER = {NONE, SALE_KIND, SALE_KIND, RAIL_KIND, LANDED_KIND, PAPER_KIND};
    private static final int THING = 0, LOSS = 1;

    private static final String FIRST_RULE = "late 0 < hour - 50 ; cut 0 ; stop hour < 20 ;";
    private static final int LATE_PART = 0, CUT_PART = 1, STOP_PART = 2, PARTS = 3;

    private final Cargo[] cargoes = new Cargo[CARGOES];
    private int cargoCount;
    private final Sale[] sales = new Sale[SALES];
    private int saleCount;
    private final Text[] texts = new Text[TEXTS];
    private int textCount;
    private int rule;
    private final Reader reader = new Reader();
    private final Reckoner reckoner = new Reckoner();
    private final Ledger ledger = new Ledger();
    private final Rings rings = new Rings();
    private final Sheet[] sheets = new Sheet[SHEETS];
    private final int[] riskNow = new int[HANDS];
    private boolean hasImage;
    private int imageCargoes;
    private int imageSales;
    private int imageRule;

    public RailCargo() {
        for (int i = 0; i < SHEETS; i++) {
            sheets[i] = new Sheet();
        }
        for (int i = 0; i < FIRST_RULE.length(); i++) {
            reader.put(FIRST_RULE.charAt(i));
        }
        reader.read();
        texts[0] = reader.asText();
        textCount = 1;
        reader.empty();
    }

    // ---- cargoes, sales

    public int cargo(int amount, int hand) {
        if (!isAmount(amount) || !isHand(hand)) {
            return BAD;
        }
        if (cargoCount >= CARGOES) {
            return FULL;
        }
        cargoes[cargoCount] = new Cargo(cargoCount, amount, hand);
        cargoCount++;
        return cargoCount - 1;
    }

    public int hour(int cargo, int what, int hour) {
        Cargo goods = cargoAt(cargo);
        if (goods == null || what < 0 || what >= CARGO_HOURS || !isHourOrNone(hour)) {
            return BAD;
        }
        int was = goods.hours[what];
        goods.hours[what] = hour;
        return was;
    }

    public int sale(int kind, int where, int amount, int price, int hour) {
        Cargo goods = where < 0 ? null : cargoAt(where / 100);
        if (!isKind(kind) || goods == null || !isAmount(amount) || price < 0 || price > MOST || !isHour(hour)) {
            return BAD;
        }
        int seller = where / 10 % 10;
        int buyer = where % 10;
        if (seller == buyer) {
            return BAD;
        }
        if (saleCount >= SALES) {
            return FULL;
        }
        sales[saleCount] = new Sale(kind, goods, seller, buyer, amount, price, hour);
        saleCount++;
        return saleCount - 1;
    }

    public int paper(int sale, int hour) {
        Sale sold = saleAt(sale);
        if (sold == null || !isHourOrNone(hour)) {
            return BAD;
        }
        int was = sold.paper;
        sold.paper = hour;
        return was;
    }

    public int pay(int sale, int coin) {
        Sale sold = saleAt(sale);
        if (sold == null || !isCoin(coin)) {
            return BAD;
        }
        if (coin > MOST_PAID - sold.paid) {
            return FULL;
        }
        sold.paid += coin;
        return sold.paid;
    }

    public int told(int sale, int what) {
        Sale sold = saleAt(sale);
        return sold == null ? NONE_SUCH : sold.tell(what);
    }

    // ---- whose

    public int whose(int cargo, int hand, int hour, int what) {
        Cargo goods = cargoAt(cargo);
        if (goods == null || !isHand(hand) || !isHour(hour) || (what != THING && what != LOSS)) {
            return BAD;
        }
        return heldAt(goods, hand, hour, what);
    }

    public long falls(int cargo, int hand, int when, int part) {
        Cargo goods = cargoAt(cargo);
        if (goods == null || !isHand(hand) || !isHour(upperOf(when)) || (part != 0 && part != 1)) {
            return NO;
        }
        int lost = lowerOf(when);
        if (lost > goods.amount) {
            return NO;
        }
        int above = lost * heldAt(goods, hand, upperOf(when), LOSS);
        int divisor = commonDivisor(above, goods.amount);
        return (part == 0 ? above : goods.amount) / divisor;
    }

    public int between(int cargo, int hand, int hours, int what) {
        Cargo goods = cargoAt(cargo);
        int from = upperOf(hours);
        int to = lowerOf(hours);
        if (goods == null || !isHand(hand) || !isHour(from) || to < from || (what != 0 && what != 1)) {
            return BAD;
        }
        ledger.open(goods, sales, saleCount, LOSS);
        ledger.runTo(from);
        int least = ledger.held[hand];
        int greatest = least;
        for (int i = 0; i < SALES && ledger.nextHour() <= to; i++) {
            ledger.runTo(ledger.nextHour());
            least = Math.min(least, ledger.held[hand]);
            greatest = Math.max(greatest, ledger.held[hand]);
        }
        return what == 0 ? least : greatest;
    }

    // ---- texts, owed

    public int feed(int n, long bytes) {
        if (n < 1 || n > 8) {
            return BAD;
        }
        if (n > reader.room()) {
            return FULL;
        }
        for (int i = 0; i < n; i++) {
            reader.put((int) (bytes >>> (8 * i)) & 255);
        }
        return reader.size;
    }

    public int text() {
        if (textCount >= TEXTS) {
            return FULL;
        }
        int fault = reader.read();
        if (fault == NONE) {
            texts[textCount] = reader.asText();
            textCount++;
        }
        reader.empty();
        return fault == NONE ? textCount - 1 : FAULT_BASE - fault;
    }

    public int force(int text) {
        if (text < 0 || text >= textCount) {
            return BAD;
        }
        int was = rule;
        rule = text;
        return was;
    }

    public long owes(int sale, int hour) {
        Sale sold = saleAt(sale);
        return sold == null || !isHour(hour) ? NO : owedFor(sold, hour);
    }

    public long balance(int hand, int hour) {
        if (!isHand(hand) || !isHour(hour)) {
            return NO;
        }
        long sum = 0;
        for (int i = 0; i < saleCount; i++) {
            Sale sold = sales[i];
            if (sold.seller == hand) {
                sum += owedFor(sold, hour);
            } else if (sold.buyer == hand) {
                sum -= owedFor(sold, hour);
            }
        }
        return sum;
    }

    // ---- rings

    public int closes(int sales) {
        if (!areOfOneCargo(sales)) {
            return BAD;
        }
        return rings.isRing(this.sales, saleCount, sales) ? 1 : 0;
    }

    public long differ(int sales, int hand) {
        if (!isHand(hand)) {
            return NO;
        }
        if (!areOfOneCargo(sales)) {
            return BAD;
        }
        return rings.isRing(this.sales, saleCount, sales) ? differenceOf(hand, sales) : STATE;
    }

    public int found(int cargo) {
        Cargo goods = cargoAt(cargo);
        return goods == null ? BAD : rings.least(sales, saleCount, goods);
    }

    // ---- one who fails

    public long loses(int hands, int hour) {
        int failing = hands / 10;
        int other = hands % 10;
        if (hands < 0 || !isHand(failing) || failing == other || !isHour(hour)) {
            return NO;
        }
        long sum = 0;
        for (int i = 0; i < saleCount; i++) {
            Sale sold = sales[i];
            if (sold.buyer == failing && sold.seller == other && sold.thingHour() <= hour) {
                sum += Math.max(0L, owedFor(sold, hour));
            }
        }
        return sum;
    }

    public int stops(int hand, int hour) {
        if (!isHand(hand) || !isHour(hour)) {
            return BAD;
        }
        int bits = 0;
        for (int i = 0; i < saleCount; i++) {
            if (sales[i].buyer == hand && canBeStopped(sales[i], hour)) {
                bits |= 1 << i;
            }
        }
        return bits;
    }

    public int two(int sale, int one, int other) {
        Sale sold = saleAt(sale);
        int oneHand = upperOf(one);
        int otherHand = upperOf(other);
        if (sold == null || !isHand(oneHand) || !isHand(otherHand) || oneHand == otherHand) {
            return BAD;
        }
        if (!isUnder(sold.kind, PAPER_KIND)) {
            return OTHER_SORT;
        }
        if (lowerOf(one) == lowerOf(other)) {
            return Math.min(oneHand, otherHand);
        }
        return lowerOf(one) < lowerOf(other) ? oneHand : otherHand;
    }

    public int hangs(int cargo, int hour, int what) {
        Cargo goods = cargoAt(cargo);
        if (goods == null || !isHour(hour) || (what != 0 && what != 1)) {
            return BAD;
        }
        keepRisk(goods, hour);
        // No LOSS passes by APART or by a PAPER, so none of those can change what is at risk.
        int byLoaded = changeWithout(goods, LOADED, hour);
        int byLanded = changeWithout(goods, LANDED, hour);
        int most = Math.max(byLoaded, byLanded);
        if (most == 0) {
            return NONE;
        }
        if (what == 1) {
            return most;
        }
        return byLoaded == most ? LOADED : LANDED;
    }

    public long moves(int sale, int as, int hour) {
        Sale sold = saleAt(sale);
        if (sold == null || as < 0 || !isKind(as / 10) || !isHour(hour)) {
            return NO;
        }
        int hand = as % 10;
        int before = heldAt(sold.cargo, hand, hour, LOSS);
        int kind = sold.kind;
        sold.kind = as / 10;
        int after = heldAt(sold.cargo, hand, hour, LOSS);
        sold.kind = kind;
        return after - before;
    }

    public int telegraph(int cargo, int hour) {
        Cargo goods = cargoAt(cargo);
        if (goods == null || !isHour(hour)) {
            return BAD;
        }
        ledger.open(goods, sales, saleCount, LOSS);
        ledger.runTo(hour);
        int bits = 0;
        for (int i = 0; i < saleCount; i++) {
            Sale sold = sales[i];
            if (sold.cargo == goods && sold.hour > hour && ledger.held[sold.seller] > 0) {
                bits |= 1 << i;
            }
        }
        return bits;
    }

    public int image() {
        for (int i = 0; i < cargoCount; i++) {
            cargoes[i].keep();
        }
        for (int i = 0; i < saleCount; i++) {
            sales[i].keep();
        }
        hasImage = true;
        imageCargoes = cargoCount;
        imageSales = saleCount;
        imageRule = rule;
        return saleCount;
    }

    public int back() {
        if (!hasImage) {
            return STATE;
        }
        for (int i = 0; i < imageCargoes; i++) {
            cargoes[i].layBack();
        }
        for (int i = 0; i < imageSales; i++) {
            sales[i].layBack();
        }
        rule = imageRule;
        return saleCount;
    }

    public int count(int what) {
        switch (what) {
            case 0: return cargoCount;
            case 1: return saleCount;
            case 2: return textCount;
            case 3: return reader.size;
            case 4: return rule;
            case 5: return papersHandedOn();
            case 6: return paidInAll();
            default: return BAD;
        }
    }

    // ---- the host

    public int sheet(int sheet, int sort, int n) {
        Sheet row = sheetAt(sheet);
        if (row == null || sort < MISSING || sort >= SORTS || (sort != MISSING && n > SHEET_ROOM)) {
            return BAD;
        }
        if (sort != MISSING && n < 0) {
            return BELOW_ZERO;
        }
        row.become(sort, sort == MISSING ? 0 : n);
        return 1;
    }

    public int cell(int sheet, int i, int v) {
        Sheet row = sheetAt(sheet);
        if (row == null) {
            return BAD;
        }
        if (row.sort == MISSING) {
            return NOTHING;
        }
        if (i < 0 || i >= row.size) {
            return OUTSIDE;
        }
        row.put(i, v);
        return 1;
    }

    public int copy(int sheet, int i, int other, int j, int n) {
        Sheet from = sheetAt(sheet);
        Sheet to = sheetAt(other);
        if (from == null || to == null) {
            return BAD;
        }
        if (from.sort == MISSING || to.sort == MISSING) {
            return NOTHING;
        }
        if (from.sort != to.sort) {
            return OTHER_SORT;
        }
        if (!from.has(i, n) || !to.has(j, n)) {
            return OUTSIDE;
        }
        System.arraycopy(from.items, i, to.items, j, n);
        return n;
    }

    public int sales(int sheet, int sort, int from, int n) {
        Sheet row = sheetAt(sheet);
        if (row == null || sort < 0 || sort >= SORTS || n < 0 || n > SALES_AT_ONCE) {
            return BAD;
        }
        if (row.sort == MISSING) {
            return NOTHING;
        }
        if (row.sort != sort) {
            return OTHER_SORT;
        }
        int came = 0;
        int at = from;
        for (int k = 0; k < n; k++) {
            if (!row.has(at, SALE_CELLS)) {
                return OUTSIDE;
            }
            int[] cells = row.items;
            if (sale(cells[at], cells[at + 1], cells[at + 2], cells[at + 3], cells[at + 4]) >= 0) {
                came++;
            }
            at += SALE_CELLS;
        }
        return came;
    }

    public int taken(int sale, int k) {
        if (!isKind(k)) {
            return BAD;
        }
        Sale sold = saleAt(sale);
        if (sold == null) {
            return NOTHING;
        }
        return isUnder(sold.kind, k) ? sold.price : OTHER_SORT;
    }

    // ---- what a number may be

    private static boolean isHand(int hand) {
        return hand >= 0 && hand < HANDS;
    }

    private static boolean isHour(int hour) {
        return hour >= 0 && hour <= LAST_HOUR;
    }

    private static boolean isHourOrNone(int hour) {
        return hour == NONE || isHour(hour);
    }

    private static boolean isAmount(int amount) {
        return amount >= 1 && amount <= MOST;
    }

    private static boolean isCoin(int coin) {
        return coin >= 0 && coin <= MOST_PAID;
    }

    private static boolean isKind(int kind) {
        return kind >= 0 && kind < KINDS;
    }

    /** Whether a kind is another one, or stands under it, also by others between. */
    private static boolean isUnder(int kind, int other) {
        int at = kind;
        for (int i = 0; i < KINDS && isKind(at); i++) {
            if (at == other) {
                return true;
            }
            at = UNDER[at];
        }
        return false;
    }

    /** Of two numbers put together, 1000 times the one and the other: the one; NONE if that is below 0. */
    private static int upperOf(int pair) {
        return pair < 0 ? NONE : pair / 1000;
    }

    private static int lowerOf(int pair) {
        return pair < 0 ? NONE : pair % 1000;
    }

    private Cargo cargoAt(int number) {
        return number >= 0 && number < cargoCount ? cargoes[number] : null;
    }

    private Sale saleAt(int number) {
        return number >= 0 && number < saleCount ? sales[number] : null;
    }

    private Sheet sheetAt(int number) {
        return number >= 0 && number < SHEETS ? sheets[number] : null;
    }

    /** Whether there are such sales, some, all of one cargo. */
    private boolean areOfOneCargo(int bits) {
        if (bits == 0 || bits >>> saleCount != 0) {
            return false;
        }
        Cargo goods = null;
        for (int i = 0; i < saleCount; i++) {
            if ((bits >>> i & 1) == 0) {
                continue;
            }
            if (goods != null && sales[i].cargo != goods) {
                return false;
            }
            goods = sales[i].cargo;
        }
        return true;
    }

    // ---- what calls have in common

    private int heldAt(Cargo goods, int hand, int hour, int what) {
        ledger.open(goods, sales, saleCount, what);
        ledger.runTo(hour);
        return ledger.held[hand];
    }

    private void keepRisk(Cargo goods, int hour) {
        ledger.open(goods, sales, saleCount, LOSS);
        ledger.runTo(hour);
        System.arraycopy(ledger.held, 0, riskNow, 0, HANDS);
    }

    /** By how much the risk that was kept would be another one, were an hour of the cargo not yet. */
    private int changeWithout(Cargo goods, int what, int hour) {
        int was = goods.hours[what];
        goods.hours[what] = NONE;
        ledger.open(goods, sales, saleCount, LOSS);
        ledger.runTo(hour);
        goods.hours[what] = was;
        int sum = 0;
        for (int hand = 0; hand < HANDS; hand++) {
            sum += Math.abs(ledger.held[hand] - riskNow[hand]);
        }
        return sum;
    }

    /** Least divisor is 1: the second number is above 0. */
    private static int commonDivisor(int one, int other) {
        int greater = other;
        int lesser = one;
        for (int i = 0; i < 64 && lesser != 0; i++) {
            int rest = greater % lesser;
            greater = lesser;
            lesser = rest;
        }
        return Math.max(1, greater);
    }

    private int ruled(int part, Sale sold, int hour) {
        return reckoner.value(texts[rule], part, sold, hour);
    }

    private static int bounded(int value, int most) {
        return Math.max(0, Math.min(value, most));
    }

    private long owedFor(Sale sold, int hour) {
        if (hour < sold.hour) {
            return 0;
        }
        int late = bounded(ruled(LATE_PART, sold, hour), MOST_LATE);
        int cut = bounded(ruled(CUT_PART, sold, hour), sold.due());
        return sold.due() + late - cut - sold.paid;
    }

    private boolean canBeStopped(Sale sold, int hour) {
        boolean handedOn = sold.paper != NONE && sold.paper <= hour;
        return !handedOn && sold.thingHour() > hour && ruled(STOP_PART, sold, hour) != 0;
    }

    private long differenceOf(int hand, int bits) {
        long sum = 0;
        for (int i = 0; i < saleCount; i++) {
            if ((bits >>> i & 1) == 0) {
                continue;
            }
            if (sales[i].seller == hand) {
                sum += sales[i].due();
            } else if (sales[i].buyer == hand) {
                sum -= sales[i].due();
            }
        }
        return sum;
    }

    private int papersHandedOn() {
        int handedOn = 0;
        for (int i = 0; i < saleCount; i++) {
            if (sales[i].paper != NONE) {
                handedOn++;
            }
        }
        return handedOn;
    }

    private int paidInAll() {
        int sum = 0;
        for (int i = 0; i < saleCount; i++) {
            sum += sales[i].paid;
        }
        return sum;
    }

    /** Goods of one ship, and when they were loaded, landed, told apart. */
    private static final class Cargo {
        final int number;
        final int amount;
        final int firstHand;
        final int[] hours = {NONE, NONE, NONE};
        private final int[] keptHours = {NONE, NONE, NONE};

        Cargo(int number, int amount, int firstHand) {
            this.number = number;
            this.amount = amount;
            this.firstHand = firstHand;
        }

        void keep() {
            System.arraycopy(hours, 0, keptHours, 0, CARGO_HOURS);
        }

        void layBack() {
            System.arraycopy(keptHours, 0, hours, 0, CARGO_HOURS);
        }
    }

    /** A sale of some of a cargo; its kind says when the thing and the loss pass. */
    private static final class Sale {
        int kind;
        final Cargo cargo;
        final int seller;
        final int buyer;
        final int amount;
        final int price;
        final int hour;
        int paper = NONE;
        int paid;
        private int keptPaper = NONE;
        private int keptPaid;

        Sale(int kind, Cargo cargo, int seller, int buyer, int amount, int price, int hour) {
            this.kind = kind;
            this.cargo = cargo;
            this.seller = seller;
            this.buyer = buyer;
            this.amount = amount;
            this.price = price;
            this.hour = hour;
        }

        int due() {
            return price * amount;
        }

        int passHour(int what) {
            return what == THING ? thingHour() : lossHour();
        }

        int thingHour() {
            switch (kind) {
                case RAIL_KIND: return laterOf(cargo.hours[LOADED], hour);
                case LANDED_KIND: return laterOf(cargo.hours[LANDED], hour);
                case HEAP_KIND: return laterOf(cargo.hours[APART], laterOf(cargo.hours[LANDED], hour));
                case PAPER_KIND:
                case STRING_KIND: return laterOf(paper, hour);
                default: return hour;
            }
        }

        int lossHour() {
            switch (kind) {
                case RAIL_KIND:
                case PAPER_KIND: return laterOf(cargo.hours[LOADED], hour);
                case LANDED_KIND:
                case HEAP_KIND: return laterOf(cargo.hours[LANDED], hour);
                case STRING_KIND: return halfWayTo(laterOf(cargo.hours[LOADED], hour));
                default: return hour;
            }
        }

        private static int laterOf(int event, int hour) {
            return event == NONE ? NOT_YET : Math.max(event, hour);
        }

        private int halfWayTo(int end) {
            return end == NOT_YET ? NOT_YET : hour + (end - hour) / 2;
        }

        int tell(int what) {
            switch (what) {
                case 0: return kind;
                case 1: return cargo.number;
                case 2: return seller;
                case 3: return buyer;
                case 4: return amount;
                case 5: return price;
                case 6: return hour;
                case 7: return paper;
                case 8: return paid;
                case 9: return thingHour();
                case 10: return lossHour();
                default: return NONE_SUCH;
            }
        }

        void keep() {
            keptPaper = paper;
            keptPaid = paid;
        }

        void layBack() {
            paper = keptPaper;
            paid = keptPaid;
        }
    }

    /** Goes through the sales of one cargo in the order in which they pass, and tells what each hand holds. */
    private static final class Ledger {
        final int[] held = new int[HANDS];
        private final Sale[] order = new Sale[SALES];
        private final int[] passes = new int[SALES];
        private int size;
        private int done;

        void open(Cargo goods, Sale[] sales, int saleCount, int what) {
            size = 0;
            done = 0;
            Arrays.fill(held, 0);
            held[goods.firstHand] = goods.amount;
            for (int i = 0; i < saleCount; i++) {
                if (sales[i].cargo == goods) {
                    enter(sales[i], sales[i].passHour(what));
                }
            }
        }

        /** Behind all that pass in the same hour: those have lesser numbers. */
        private void enter(Sale sold, int pass) {
            int place = size;
            for (; place > 0 && passes[place - 1] > pass; place--) {
                passes[place] = passes[place - 1];
                order[place] = order[place - 1];
            }
            passes[place] = pass;
            order[place] = sold;
            size++;
        }

        void runTo(int hour) {
            for (; done < size && passes[done] <= hour; done++) {
                Sale sold = order[done];
                int amount = Math.min(sold.amount, held[sold.seller]);
                held[sold.seller] -= amount;
                held[sold.buyer] += amount;
            }
        }

        /** When the next one passes that has not been gone through. */
        int nextHour() {
            return done < size ? passes[done] : NOT_YET;
        }
    }

    /** Sales that close into a ring. */
    private static final class Rings {
        private static final int LOOKED_AT = 12;

        private final int[] sellsMore = new int[HANDS];
        private Sale[] sales;
        private int saleCount;
        private int best;

        boolean isRing(Sale[] sales, int saleCount, int bits) {
            this.sales = sales;
            this.saleCount = saleCount;
            return amountsAlike(bits) && allSellAsTheyBuy(bits) && handsReached(bits) == handsIn(bits);
        }

        private boolean has(int bits, int sale) {
            return (bits >>> sale & 1) != 0;
        }

        private boolean amountsAlike(int bits) {
            int amount = NONE;
            for (int i = 0; i < saleCount; i++) {
                if (has(bits, i)) {
                    if (amount != NONE && amount != sales[i].amount) {
                        return false;
                    }
                    amount = sales[i].amount;
                }
            }
            return true;
        }

        private boolean allSellAsTheyBuy(int bits) {
            Arrays.fill(sellsMore, 0);
            for (int i = 0; i < saleCount; i++) {
                if (has(bits, i)) {
                    sellsMore[sales[i].seller]++;
                    sellsMore[sales[i].buyer]--;
                }
            }
            for (int hand = 0; hand < HANDS; hand++) {
                if (sellsMore[hand] != 0) {
                    return false;
                }
            }
            return true;
        }

        private int handsIn(int bits) {
            int hands = 0;
            for (int i = 0; i < saleCount; i++) {
                if (has(bits, i)) {
                    hands |= 1 << sales[i].seller | 1 << sales[i].buyer;
                }
            }
            return hands;
        }

        /**
         * The hands to which one comes from the first seller. Where all sell as often as they buy, no sale
         * leads out of these and so none leads into them: if these are all, each comes to each.
         */
        private int handsReached(int bits) {
            int hands = 0;
            for (int round = 0; round < HANDS; round++) {
                for (int i = 0; i < saleCount; i++) {
                    if (has(bits, i) && (hands == 0 || has(hands, sales[i].seller))) {
                        hands |= 1 << sales[i].seller | 1 << sales[i].buyer;
                    }
                }
            }
            return hands;
        }

        /**
         * A ring in which a hand sells twice falls into lesser rings, so the least one goes through each of
         * its hands once: it is enough to walk from each sale by later ones till its seller is reached.
         */
        int least(Sale[] sales, int saleCount, Cargo goods) {
            this.sales = sales;
            this.saleCount = Math.min(saleCount, LOOKED_AT);
            best = NONE;
            for (int first = 0; first < this.saleCount; first++) {
                if (sales[first].cargo == goods) {
                    walk(first, sales[first].buyer, 1 << first, 1 << sales[first].buyer);
                }
            }
            return best;
        }

        private void walk(int first, int hand, int bits, int visited) {
            if (Integer.bitCount(bits) >= HANDS) {
                return;
            }
            for (int i = first + 1; i < saleCount; i++) {
                if (!follows(first, i, hand)) {
                    continue;
                }
                int next = sales[i].buyer;
                if (next == sales[first].seller) {
                    offer(bits | 1 << i);
                } else if (!has(visited, next)) {
                    walk(first, next, bits | 1 << i, visited | 1 << next);
                }
            }
        }

        private boolean follows(int first, int next, int hand) {
            return sales[next].seller == hand && sales[next].cargo == sales[first].cargo
                    && sales[next].amount == sales[first].amount;
        }

        private void offer(int bits) {
            int fewer = best == NONE ? -1 : Integer.bitCount(bits) - Integer.bitCount(best);
            if (fewer < 0 || (fewer == 0 && bits < best)) {
                best = bits;
            }
        }
    }

    /** What was read: for late, cut and stop, one behind the other, the codes in the order of their reckoning. */
    private static final class Text {
        private final int[] codes;
        private final int[] ends;

        Text(int[] codes, int[] ends) {
            this.codes = codes;
            this.ends = ends;
        }

        int startOf(int part) {
            return part == LATE_PART ? 0 : ends[part - 1];
        }

        int endOf(int part) {
            return ends[part];
        }

        int codeAt(int i) {
            return codes[i];
        }
    }

    /** The numbers by which tokens, and the codes that are made of them, are told apart. */
    private static final class Token {
        static final String WORDS = "kind hour price amount paid due or and not late cut stop ";
        static final int KIND = 0, HOUR = 1, PRICE = 2, AMOUNT = 3, PAID = 4, NAMES = 6;
        static final int OR = 6, AND = 7, NOT = 8, LATE = 9;
        static final int END = 20, BROKEN = 21, NEGATE = 22;
        static final String SIGNS = "();+-*<=";
        static final int OPEN = '(', CLOSE = ')', SEMICOLON = ';', PLUS = '+', MINUS = '-', TIMES = '*', LESS = '<',
                SAME = '=';
        /** A number's token is this and the number. */
        static final int NUMBER = 100;
    }

    /** Reads the tape as a text. */
    private static final class Reader {
        private static final int TAPE_ROOM = 160, DIGITS = 4, OPEN_AT_ONCE = 5;
        private static final int EITHER = 0, BOTH = 1, DENIAL = 2, SUM = 3, TERM = 4, ONE = 5;

        private final int[] tape = new int[TAPE_ROOM];
        int size;
        private final int[] tokens = new int[TAPE_ROOM + 1];
        private final int[] places = new int[TAPE_ROOM + 1];
        private int tokenCount;
        private int at;
        private int fault;
        private final int[] codes = new int[TAPE_ROOM];
        private int codeCount;
        private final int[] ends = new int[PARTS];

        int room() {
            return TAPE_ROOM - size;
        }

        void put(int sign) {
            if (size < TAPE_ROOM) {
                tape[size] = sign;
                size++;
            }
        }

        void empty() {
            size = 0;
        }

        /** The place of the fault, or NONE. */
        int read() {
            split();
            at = 0;
            fault = NONE;
            codeCount = 0;
            for (int part = 0; part < PARTS; part++) {
                take(Token.LATE + part);
                phrase(EITHER, 0);
                take(Token.SEMICOLON);
                ends[part] = codeCount;
            }
            if (token() != Token.END) {
                fail();
            }
            return fault;
        }

        Text asText() {
            return new Text(Arrays.copyOf(codes, codeCount), Arrays.copyOf(ends, PARTS));
        }

        // ---- from bytes to tokens

        private void split() {
            tokenCount = 0;
            int place = 0;
            for (int i = 0; i < TAPE_ROOM && place < size; i++) {
                int end = endOfToken(place);
                if (!isBlank(tape[place])) {
                    tokens[tokenCount] = tokenOf(place, end);
                    places[tokenCount] = place;
                    tokenCount++;
                }
                place = end;
            }
            tokens[tokenCount] = Token.END;
            places[tokenCount] = size;
        }

        private static boolean isBlank(int sign) {
            return sign == ' ' || sign == '\n';
        }

        private static boolean isLetter(int sign) {
            return sign >= 'a' && sign <= 'z';
        }

        private static boolean isDigit(int sign) {
            return sign >= '0' && sign <= '9';
        }

        private int endOfToken(int place) {
            boolean word = isLetter(tape[place]);
            boolean number = isDigit(tape[place]);
            int end = place + 1;
            while (end < size && (word && isLetter(tape[end]) || number && isDigit(tape[end]))) {
                end++;
            }
            return end;
        }

        private int tokenOf(int place, int end) {
            int sign = tape[place];
            if (isLetter(sign)) {
                return wordOf(place, end);
            }
            if (isDigit(sign)) {
                return end - place > DIGITS ? Token.BROKEN : Token.NUMBER + numberOf(place, end);
            }
            return Token.SIGNS.indexOf((char) sign) < 0 ? Token.BROKEN : sign;
        }

        private int numberOf(int place, int end) {
            int number = 0;
            for (int i = place; i < end; i++) {
                number = number * 10 + tape[i] - '0';
            }
            return number;
        }

        private int wordOf(int place, int end) {
            int word = 0;
            int start = 0;
            for (int i = 0; i < Token.WORDS.length(); i++) {
                if (Token.WORDS.charAt(i) == ' ') {
                    if (i - start == end - place && stands(start, place, end)) {
                        return word;
                    }
                    word++;
                    start = i + 1;
                }
            }
            return Token.BROKEN;
        }

        private boolean stands(int start, int place, int end) {
            for (int i = place; i < end; i++) {
                if (tape[i] != Token.WORDS.charAt(start + i - place)) {
                    return false;
                }
            }
            return true;
        }

        // ---- from tokens to codes

        /** Behind a fault no token stands anywhere, so all that is open ends by itself. */
        private int token() {
            return fault == NONE ? tokens[at] : Token.BROKEN;
        }

        private void fail() {
            if (fault == NONE) {
                fault = places[at];
            }
        }

        private void next() {
            if (at < tokenCount) {
                at++;
            }
        }

        private void take(int wanted) {
            if (token() == wanted) {
                next();
            } else {
                fail();
            }
        }

        private void emit(int code) {
            if (codeCount < codes.length) {
                codes[codeCount] = code;
                codeCount++;
            }
        }

        private void phrase(int level, int open) {
            if (level == DENIAL) {
                denial(open);
                return;
            }
            if (level >= ONE) {
                one(open);
                return;
            }
            phrase(level + 1, open);
            for (int i = 0; i < TAPE_ROOM && joins(token(), level); i++) {
                int sign = token();
                next();
                phrase(level + 1, open);
                emit(sign);
            }
        }

        private static boolean joins(int token, int level) {
            switch (level) {
                case EITHER: return token == Token.OR;
                case BOTH: return token == Token.AND;
                case SUM: return token == Token.PLUS || token == Token.MINUS;
                case TERM: return token == Token.TIMES;
                default: return false;
            }
        }

        private void denial(int open) {
            if (token() == Token.NOT) {
                if (opens(open)) {
                    denial(open + 1);
                    emit(Token.NOT);
                }
                return;
            }
            phrase(SUM, open);
            int sign = token();
            if (sign == Token.LESS || sign == Token.SAME) {
                next();
                phrase(SUM, open);
                emit(sign);
            }
        }

        private void one(int open) {
            int token = token();
            if (token < Token.NAMES || token >= Token.NUMBER) {
                next();
                emit(token);
            } else if (token == Token.MINUS && opens(open)) {
                one(open + 1);
                emit(Token.NEGATE);
            } else if (token == Token.OPEN && opens(open)) {
                phrase(EITHER, open + 1);
                take(Token.CLOSE);
            } else {
                fail();
            }
        }

        /** Takes the token that opens something, if one more may be open. */
        private boolean opens(int open) {
            if (open >= OPEN_AT_ONCE) {
                fail();
                return false;
            }
            next();
            return true;
        }
    }

    /** Reckons a part of a text for a sale at an hour. */
    private static final class Reckoner {
        private static final int ROOM = 160;

        private final int[] stack = new int[ROOM];
        private int top;

        int value(Text text, int part, Sale sold, int hour) {
            top = 0;
            int end = text.endOf(part);
            for (int i = text.startOf(part); i < end; i++) {
                step(text.codeAt(i), sold, hour);
            }
            return pop();
        }

        private void step(int code, Sale sold, int hour) {
            if (code >= Token.NUMBER) {
                push(code - Token.NUMBER);
            } else if (code < Token.NAMES) {
                push(named(code, sold, hour));
            } else if (code == Token.NOT) {
                push(truth(pop() == 0));
            } else if (code == Token.NEGATE) {
                push(-pop());
            } else {
                int right = pop();
                int left = pop();
                push(joined(code, left, right));
            }
        }

        private void push(int value) {
            if (top < ROOM) {
                stack[top] = value;
                top++;
            }
        }

        private int pop() {
            if (top <= 0) {
                return 0;
            }
            top--;
            return stack[top];
        }

        private static int truth(boolean is) {
            return is ? 1 : 0;
        }

        private static int named(int name, Sale sold, int hour) {
            switch (name) {
                case Token.KIND: return sold.kind;
                case Token.HOUR: return hour - sold.hour;
                case Token.PRICE: return sold.price;
                case Token.AMOUNT: return sold.amount;
                case Token.PAID: return sold.paid;
                default: return sold.due();
            }
        }

        private static int joined(int sign, int left, int right) {
            switch (sign) {
                case Token.OR: return truth(left != 0 || right != 0);
                case Token.AND: return truth(left != 0 && right != 0);
                case Token.LESS: return truth(left < right);
                case Token.SAME: return truth(left == right);
                case Token.PLUS: return left + right;
                case Token.MINUS: return left - right;
                default: return left * right;
            }
        }
    }

    /** A row of numbers of a sort, or a missing one; its room is kept to be used again. */
    private static final class Sheet {
        private static final int BYTES = 0, SHORTS = 1;

        final int[] items = new int[SHEET_ROOM];
        int sort = MISSING;
        int size;

        void become(int sort, int size) {
            this.sort = sort;
            this.size = size;
            Arrays.fill(items, 0);
        }

        void put(int i, int value) {
            items[i] = sort == BYTES ? (byte) value : sort == SHORTS ? (short) value : value;
        }

        boolean has(int i, int n) {
            return n >= 0 && i >= 0 && i <= size - n;
        }
    }
}
