import java.util.List;

/** Boundary cases that the first part of the terms names: numbers, refusals, cargoes, sales, whose, falls, between. */
final class EdgesOfTerms {
    private static final int BAD = -2;

    private EdgesOfTerms() {
    }

    static void addTo(List<Edge> all) {
        addNumbers(all);
        addRefusals(all);
        addSales(all);
        addThing(all);
        addLoss(all);
        addWhose(all);
    }

    private static void addNumbers(List<Edge> all) {
        all.add(new Edge("What it is", "An object is used for at most 512 calls after it has been made",
                EdgesOfTerms::calls)
            .broken("public int count(int what) {",
                    "private int calls; public int count(int what) { if (++calls >= 511) { return BAD; }"));
        all.add(new Edge("Terms 1", "HOURS are 0 .. 999.", EdgesOfTerms::hours)
            .broken("return hour >= 0 && hour <= LAST_HOUR;", "return hour > 0 && hour <= LAST_HOUR;")
            .broken("return hour >= 0 && hour <= LAST_HOUR;", "return hour <= LAST_HOUR;")
            .broken("LAST_HOUR = 999", "LAST_HOUR = 998")
            .broken("LAST_HOUR = 999", "LAST_HOUR = 1000")
            .broken("return hour == NONE || isHour(hour);", "return hour >= BAD && hour <= LAST_HOUR;"));
        all.add(new Edge("Terms 1", "HANDS 0 .. 9.", EdgesOfTerms::hands)
            .broken("return hand >= 0 && hand < HANDS;", "return hand > 0 && hand < HANDS;")
            .broken("return hand >= 0 && hand < HANDS;", "return hand < HANDS;")
            .broken("return hand >= 0 && hand < HANDS;", "return hand >= 0 && hand < HANDS - 1;")
            .broken("return hand >= 0 && hand < HANDS;", "return hand >= 0 && hand <= HANDS;"));
        all.add(new Edge("Terms 1", "CARGOES (4 at most, numbered from 0)", EdgesOfTerms::cargoes)
            .broken("CARGOES = 4,", "CARGOES = 3,")
            .broken("CARGOES = 4,", "CARGOES = 5,")
            .broken("return cargoCount - 1;", "return cargoCount;")
            .broken("return number >= 0 && number < cargoCount ?", "return number > 0 && number < cargoCount ?")
            .broken("return number >= 0 && number < cargoCount ?", "return number >= 0 && number <= cargoCount ?"));
        all.add(new Edge("Terms 1", "an AMOUNT (1 .. 999), the first HAND", EdgesOfTerms::amountOfCargo)
            .broken("if (!isAmount(amount) || !isHand(hand)) {", "if (amount < 0 || amount > MOST || !isHand(hand)) {")
            .broken("if (!isAmount(amount) || !isHand(hand)) {", "if (amount < 2 || amount > MOST || !isHand(hand)) {")
            .broken("if (!isAmount(amount) || !isHand(hand)) {", "if (amount < 1 || amount >= MOST || !isHand(hand)) {")
            .broken("if (!isAmount(amount) || !isHand(hand)) {", "if (amount < 1 || !isHand(hand)) {"));
        all.add(new Edge("Terms 1", "an HOUR of each, or not yet (NONE, as at first)", EdgesOfTerms::notYet)
            .broken("final int[] hours = {NONE, NONE, NONE};", "final int[] hours = {0, NONE, NONE};")
            .broken("final int[] hours = {NONE, NONE, NONE};", "final int[] hours = {NONE, 0, NONE};")
            .broken("final int[] hours = {NONE, NONE, NONE};", "final int[] hours = {NONE, NONE, 0};")
            .broken("return hour == NONE || isHour(hour);", "return isHour(hour);"));
        all.add(new Edge("Terms 1", "NONE is -1; NO, where a long is answered, -4611686018427387904.",
                EdgesOfTerms::constants)
            .broken("NONE = -1, BAD", "NONE = -9, BAD")
            .broken("NO = -4611686018427387904L", "NO = -4611686018427387903L"));
        all.add(new Edge("Terms 1", "Quotients are cut toward 0.", EdgesOfTerms::quotients)
            .broken("hour + (end - hour) / 2", "hour + (end - hour + 1) / 2")
            .broken("hour + (end - hour) / 2", "end - (end - hour) / 2"));
    }

    private static void calls() {
        RailCargo x = Made.cargo(10);
        for (int call = 2; call < 512; call++) {
            Due.is("call " + call, x.count(0), 1);
        }
        Due.is("call 512", x.count(0), 1);
    }

    private static void hours() {
        Made.within("hour of a cargo", BAD, -1, 999, (x, h) -> x.hour(0, 0, h));
        Made.within("hour of a sale", BAD, 0, 999, (x, h) -> x.sale(0, 1, 1, 1, h));
        Made.within("hour of a paper", BAD, -1, 999, (x, h) -> x.paper(0, h));
        Made.within("whose", BAD, 0, 999, (x, h) -> x.whose(0, 0, h, 0));
        Made.within("falls", Made.NO, 0, 999, (x, h) -> x.falls(0, 0, 1000 * h, 0));
        Made.within("between", BAD, 0, 999, (x, h) -> x.between(0, 0, 1000 * h + 999, 0));
        Made.within("owes", Made.NO, 0, 999, (x, h) -> x.owes(0, h));
        Made.within("balance", Made.NO, 0, 999, (x, h) -> x.balance(0, h));
        Made.within("loses", Made.NO, 0, 999, (x, h) -> x.loses(10, h));
        Made.within("stops", BAD, 0, 999, (x, h) -> x.stops(1, h));
        Made.within("two", BAD, 0, 999, (x, h) -> x.two(3, h, 1500));
        Made.within("hangs", BAD, 0, 999, (x, h) -> x.hangs(0, h, 0));
        Made.within("moves", Made.NO, 0, 999, (x, h) -> x.moves(0, 0, h));
        Made.within("telegraph", BAD, 0, 999, (x, h) -> x.telegraph(0, h));
    }

    private static void hands() {
        Made.within("cargo", BAD, 0, 9, (x, hand) -> x.cargo(1, hand));
        Made.within("seller", BAD, 0, 9, (x, hand) -> x.sale(0, 10 * hand + (hand + 1) % 10, 1, 1, 1));
        Made.within("whose", BAD, 0, 9, (x, hand) -> x.whose(0, hand, 0, 0));
        Made.within("falls", Made.NO, 0, 9, (x, hand) -> x.falls(0, hand, 0, 0));
        Made.within("between", BAD, 0, 9, (x, hand) -> x.between(0, hand, 999, 0));
        Made.within("balance", Made.NO, 0, 9, (x, hand) -> x.balance(hand, 0));
        Made.within("differ", Made.NO, 0, 9, (x, hand) -> x.differ(1, hand));
        Made.within("loses", Made.NO, 0, 9, (x, hand) -> x.loses(10 * hand + 5, 0));
        Made.within("stops", BAD, 0, 9, (x, hand) -> x.stops(hand, 0));
        Made.within("two", BAD, 0, 9, (x, hand) -> x.two(3, 1000 * hand, 5000));
        Made.within("two", BAD, 0, 9, (x, hand) -> x.two(3, 5000, 1000 * hand));
        Due.is("by the last hand", Made.kinds().sale(0, 98, 1, 1, 1), 6);
        Due.is("to the last hand", Made.kinds().sale(0, 89, 1, 1, 1), 6);
    }

    private static void cargoes() {
        RailCargo x = new RailCargo();
        for (int number = 0; number < 4; number++) {
            Due.is("no such cargo yet", x.found(number), BAD);
            Due.is("cargo " + number, x.cargo(10, 0), number);
            Due.is("there it is", x.found(number), -1);
        }
        Due.is("a fifth", x.cargo(10, 0), -4);
        int[] none = {-1, 4};
        for (int number : none) {
            Due.is("hour of cargo " + number, x.hour(number, 0, 0), BAD);
            Due.is("sale of cargo " + number, x.sale(0, 100 * number + 1, 1, 1, 1), BAD);
            Due.is("whose of cargo " + number, x.whose(number, 0, 0, 0), BAD);
            Due.is("falls of cargo " + number, x.falls(number, 0, 0, 0), Made.NO);
            Due.is("between of cargo " + number, x.between(number, 0, 0, 0), BAD);
            Due.is("found of cargo " + number, x.found(number), BAD);
            Due.is("hangs of cargo " + number, x.hangs(number, 0, 0), BAD);
            Due.is("telegraph of cargo " + number, x.telegraph(number, 0), BAD);
        }
        Due.is("sale of the last cargo", x.sale(0, 301, 1, 1, 1), 0);
    }

    private static void amountOfCargo() {
        Made.within("cargo", BAD, 1, 999, (x, amount) -> x.cargo(amount, 0));
        Made.refused("cargo", BAD, (x, amount) -> x.cargo(amount, 0), -1, Made.MIN, Made.MAX);
    }

    private static void notYet() {
        RailCargo x = Made.kinds();
        Due.is("not loaded at first", x.hour(0, 0, -1), -1);
        Due.is("not landed at first", x.hour(0, 1, -1), -1);
        Due.is("not told apart at first", x.hour(0, 2, -1), -1);
        int[] by = {1, 2, 4};
        for (int kind : by) {
            Due.is("the thing of kind " + kind + " has not passed", x.told(kind, 9), 1000);
        }
    }

    private static void constants() {
        Due.is("NONE", constant("NONE"), -1);
        Due.is("NO", constant("NO"), -4611686018427387904L);
        Due.is("NONE answered", Made.cargo(1).found(0), -1);
        Due.is("NO answered", Made.cargo(1).owes(0, 0), -4611686018427387904L);
    }

    /** Looked up as the test runs: the compiler would write the value itself into the test. */
    private static long constant(String name) {
        try {
            return RailCargo.class.getField(name).getLong(null);
        } catch (ReflectiveOperationException e) {
            throw new IllegalStateException(e);
        }
    }

    private static void quotients() {
        RailCargo x = Made.cargo(10);
        x.sale(5, 1, 1, 1, 20);
        int[] half = {20, 20, 21, 21, 22};
        for (int more = 0; more < half.length; more++) {
            x.hour(0, 0, 20 + more);
            Due.is("half of " + more + " hours", x.told(0, 10), half[more]);
        }
    }

    private static void addRefusals(List<Edge> all) {
        all.add(new Edge("Terms 1", "Refusals, the first that the call's words name", EdgesOfTerms::firstNamed)
            .broken("if (!isAmount(amount) || !isHand(hand)) {",
                    "if (cargoCount >= CARGOES) { return FULL; } if (!isAmount(amount) || !isHand(hand)) {")
            .broken("if (n < 1 || n > 8) {", "if (n > reader.room()) { return FULL; } if (n < 1 || n > 8) {")
            .broken("if (n < 1 || n > 8) {", "if (reader.room() == 0) { return FULL; } if (n < 1 || n > 8) {")
            .broken("if (sold == null || !isCoin(coin)) {",
                    "if (sold != null && sold.paid >= MOST_PAID) { return FULL; }"
                    + " if (sold == null || !isCoin(coin)) {")
            .broken("int seller = where / 10 % 10;",
                    "if (saleCount >= SALES) { return FULL; } int seller = where / 10 % 10;"));
        all.add(new Edge("Terms 1", "they change nothing", EdgesOfTerms::changeNothing)
            .broken("if (cargoCount >= CARGOES) {", "if (cargoCount >= CARGOES) { cargoes[0].hours[0] = 7;")
            .broken("if (saleCount >= SALES) {", "if (saleCount >= SALES) { sales[23].paper = 7;")
            .broken("if (seller == buyer) {", "if (seller == buyer) { saleCount--;")
            .broken("if (coin > MOST_PAID - sold.paid) {", "if (coin > MOST_PAID - sold.paid) { sold.paid = 0;")
            .broken("if (n > reader.room()) {", "if (n > reader.room()) { reader.empty();")
            .broken("if (n < 1 || n > 8) {", "if (n < 1 || n > 8) { reader.empty();")
            .broken("if (textCount >= TEXTS) {", "if (textCount >= TEXTS) { reader.empty();")
            .broken("if (text < 0 || text >= textCount) {", "if (text < 0 || text >= textCount) { rule = 0;")
            .broken("if (i < 0 || i >= row.size) {", "if (i < 0 || i >= row.size) { row.put(0, v);")
            .broken("if (from.sort != to.sort) {", "if (from.sort != to.sort) { to.items[3] = from.items[3];"));
        all.add(new Edge("Terms 1", "BAD (-2: a number is none such or not as told), STATE (-3), FULL (-4); the host's:"
                + " -11 nothing where something is asked, -12 a place outside, -13 a thing of another sort or KIND,"
                + " -14 a size below 0.", EdgesOfTerms::numbersOfRefusals)
            .broken("BAD = -2,", "BAD = -6,").broken("STATE = -3,", "STATE = -6,").broken("FULL = -4;", "FULL = -6;")
            .broken("NOTHING = -11", "NOTHING = -10").broken("OUTSIDE = -12", "OUTSIDE = -10")
            .broken("OTHER_SORT = -13", "OTHER_SORT = -10").broken("BELOW_ZERO = -14", "BELOW_ZERO = -10"));
    }

    private static void firstNamed() {
        RailCargo full = Made.full();
        Due.is("cargo: BAD; FULL", full.cargo(0, 0), BAD);
        Due.is("cargo: BAD; FULL", full.cargo(1, 10), BAD);
        Due.is("sale: BAD; FULL", full.sale(6, 1, 1, 1, 1), BAD);
        Due.is("sale: BAD; FULL", full.sale(0, 11, 1, 1, 1), BAD);
        Due.is("sale: BAD; FULL", full.sale(0, 1, 1, 1, 1000), BAD);
        Due.is("pay: BAD; FULL", full.pay(24, 999999), BAD);
        Due.is("pay: BAD; FULL", full.pay(0, 1000000), BAD);
        Due.is("pay: BAD; FULL", full.pay(0, -1), BAD);
        Due.is("feed: BAD; FULL", full.feed(9, 0), BAD);
        Due.is("feed: BAD; FULL", full.feed(0, 0), BAD);
        RailCargo x = Made.kinds();
        Due.is("differ: NO; BAD", x.differ(0, 10), Made.NO);
        Due.is("differ: NO; STATE", x.differ(1, -1), Made.NO);
        Due.is("differ: BAD; STATE", x.differ(1 | 1 << 6, 0), BAD);
        Due.is("two: BAD; -13", x.two(0, 1000, 1001), BAD);
        Due.is("hangs: BAD; NONE", x.hangs(0, 0, 2), BAD);
        Due.is("taken: BAD; -11", x.taken(6, 6), BAD);
        Due.is("sheet: BAD; -14", x.sheet(4, 0, -1), BAD);
        Due.is("sheet: BAD; -14", x.sheet(0, 3, -1), BAD);
        Due.is("cell: BAD; -11", x.cell(4, 0, 0), BAD);
        Due.is("cell: -11; -12", x.cell(0, -1, 0), -11);
        x.sheet(0, 0, 4);
        x.sheet(1, 1, 4);
        Due.is("copy: BAD; -11", x.copy(4, 0, 3, 0, 1), BAD);
        Due.is("copy: BAD; -11", x.copy(3, 0, 4, 0, 1), BAD);
        Due.is("copy: -11; -12", x.copy(0, 9, 3, 9, -1), -11);
        Due.is("copy: -13; -12", x.copy(0, 9, 1, 9, -1), -13);
        Due.is("sales: BAD; -13", x.sales(0, 1, 0, 9), BAD);
        Due.is("sales: BAD; -11", x.sales(3, 3, 0, 1), BAD);
        Due.is("sales: -13; -12", x.sales(0, 1, 9, 1), -13);
        Due.is("sales: -11; -12", x.sales(3, 1, 9, 1), -11);
    }

    private static void changeNothing() {
        String some = seen(Made.some());
        Made.Asked[] calls = {
            (x, n) -> x.cargo(0, 0), (x, n) -> x.cargo(1, 10), (x, n) -> x.hour(2, 0, 1), (x, n) -> x.hour(0, 3, 1),
            (x, n) -> x.hour(0, 0, 1000), (x, n) -> x.sale(6, 1, 1, 1, 1), (x, n) -> x.sale(0, 201, 1, 1, 1),
            (x, n) -> x.sale(0, 22, 1, 1, 1), (x, n) -> x.sale(0, 1, 0, 1, 1), (x, n) -> x.sale(0, 1, 1, 1000, 1),
            (x, n) -> x.sale(0, 1, 1, 1, -1), (x, n) -> x.paper(3, 1), (x, n) -> x.paper(0, 1000),
            (x, n) -> x.pay(3, 1), (x, n) -> x.pay(0, -1), (x, n) -> x.pay(0, 1000000), (x, n) -> x.pay(0, 999999),
            (x, n) -> x.told(3, 0), (x, n) -> x.told(0, 11), (x, n) -> x.whose(2, 0, 0, 0),
            (x, n) -> x.falls(0, 0, 101, 0), (x, n) -> x.between(0, 0, 5004, 0), (x, n) -> x.feed(0, 1),
            (x, n) -> x.feed(9, 1), (x, n) -> x.force(2), (x, n) -> x.force(-1), (x, n) -> x.owes(3, 0),
            (x, n) -> x.balance(10, 0), (x, n) -> x.closes(0), (x, n) -> x.closes(5), (x, n) -> x.differ(1, 10),
            (x, n) -> x.differ(1, 0), (x, n) -> x.found(2), (x, n) -> x.loses(11, 0), (x, n) -> x.stops(10, 0),
            (x, n) -> x.two(0, 1, 1001), (x, n) -> x.two(1, 1, 2), (x, n) -> x.hangs(0, 0, 2),
            (x, n) -> x.moves(0, 60, 0), (x, n) -> x.telegraph(2, 0), (x, n) -> x.count(7),
            (x, n) -> x.sheet(4, 0, 1), (x, n) -> x.sheet(0, 3, 1), (x, n) -> x.sheet(0, 2, 41),
            (x, n) -> x.sheet(0, 2, -1), (x, n) -> x.cell(4, 0, 9), (x, n) -> x.cell(3, 0, 9),
            (x, n) -> x.cell(0, 10, 9), (x, n) -> x.copy(0, 0, 4, 0, 1), (x, n) -> x.copy(0, 0, 3, 0, 1),
            (x, n) -> x.copy(0, 0, 1, 0, 1), (x, n) -> x.copy(0, 0, 0, 9, 2), (x, n) -> x.copy(0, 0, 0, 1, -1),
            (x, n) -> x.sales(0, 2, 0, 9), (x, n) -> x.sales(0, 1, 0, 1), (x, n) -> x.sales(3, 1, 0, 1),
            (x, n) -> x.sales(0, 2, 6, 1), (x, n) -> x.taken(0, 6), (x, n) -> x.taken(3, 0),
            (x, n) -> x.taken(0, 1)};
        for (int i = 0; i < calls.length; i++) {
            RailCargo x = Made.some();
            Due.is("call " + i + " is refused", calls[i].of(x, 0) < -1 ? 1 : 0, 1);
            Due.is("call " + i + " changes nothing", seen(x).equals(some) ? 1 : 0, 1);
        }
        changeNothingWhereFull();
        RailCargo x = Made.cargo(5);
        Due.is("no image to go back to", x.back(), -3);
        Due.is("nothing is changed by it", x.count(0), 1);
    }

    private static void changeNothingWhereFull() {
        String full = seen(Made.full());
        Made.Asked[] calls = {(x, n) -> x.cargo(1, 0), (x, n) -> x.sale(0, 1, 1, 1, 1), (x, n) -> x.pay(0, 1),
            (x, n) -> x.feed(1, 65), (x, n) -> x.feed(8, 65), (x, n) -> x.text()};
        for (int i = 0; i < calls.length; i++) {
            RailCargo x = Made.full();
            Due.is("call " + i + " has no room", calls[i].of(x, 0), -4);
            Due.is("full, call " + i + " changes nothing", seen(x).equals(full) ? 1 : 0, 1);
        }
    }

    /** All that can be seen of an object; it is of no more use then. */
    private static String seen(RailCargo x) {
        StringBuilder seen = new StringBuilder();
        seeCounts(x, seen);
        seeSales(x, seen);
        for (int cargo = 0; cargo < x.count(0); cargo++) {
            seen.append(' ').append(x.whose(cargo, 0, 999, 0)).append(' ').append(x.whose(cargo, 2, 999, 1));
            for (int what = 0; what < 3; what++) {
                seen.append(' ').append(x.hour(cargo, what, 9));
            }
        }
        seen.append(" sheets ").append(x.sales(0, 2, 0, 2)).append(' ').append(x.sales(1, 0, 0, 1));
        seen.append(' ').append(x.cell(1, 4, 1)).append(' ').append(x.cell(1, 5, 1));
        seen.append(' ').append(x.cell(2, 0, 1));
        seen.append(" texts ").append(x.feed(2, 0x3b31)).append(' ').append(x.text()).append(' ').append(x.force(1));
        seen.append(' ').append(x.owes(0, 999)).append(' ').append(x.force(2)).append(' ').append(x.owes(0, 999));
        seen.append(" back ").append(x.back());
        seeCounts(x, seen);
        if (x.count(1) < 24) {
            seeSales(x, seen);
        }
        return seen.toString();
    }

    private static void seeCounts(RailCargo x, StringBuilder seen) {
        for (int what = 0; what < 7; what++) {
            seen.append(' ').append(x.count(what));
        }
    }

    private static void seeSales(RailCargo x, StringBuilder seen) {
        for (int sale = 0; sale < x.count(1); sale++) {
            for (int what = 0; what < 11; what++) {
                seen.append(' ').append(x.told(sale, what));
            }
        }
    }

    private static void numbersOfRefusals() {
        RailCargo x = Made.full();
        Due.is("BAD", constant("BAD"), -2);
        Due.is("STATE", constant("STATE"), -3);
        Due.is("FULL", constant("FULL"), -4);
        Due.is("BAD answered", x.count(7), -2);
        Due.is("STATE answered", x.differ(1, 0), -3);
        Due.is("STATE answered", x.back(), -3);
        Due.is("FULL answered", x.cargo(1, 1), -4);
        Due.is("nothing where something is asked", x.cell(0, 0, 0), -11);
        Due.is("nothing where something is asked", x.taken(24, 0), -11);
        x.sheet(0, 0, 1);
        Due.is("a place outside", x.cell(0, 1, 0), -12);
        Due.is("a thing of another sort", x.sales(0, 1, 0, 0), -13);
        Due.is("a thing of another KIND", x.taken(0, 4), -13);
        Due.is("a size below 0", x.sheet(0, 0, -1), -14);
    }

    private static void addSales(List<Edge> all) {
        all.add(new Edge("Terms 1", "SALES (24 at most, numbered from 0)", EdgesOfTerms::sales)
            .broken("SALES = 24,", "SALES = 23,")
            .broken("SALES = 24,", "SALES = 25,")
            .broken("return saleCount - 1;", "return saleCount;")
            .broken("return number >= 0 && number < saleCount ?", "return number > 0 && number < saleCount ?")
            .broken("return number >= 0 && number < saleCount ?", "return number >= 0 && number <= saleCount ?"));
        all.add(new Edge("Terms 1", "have a KIND: 0 SALE, 1 RAIL under SALE, 2 LANDED under SALE, 3 PAPER under RAIL,"
                + " 4 HEAP under LANDED, 5 STRING under PAPER", EdgesOfTerms::kinds)
            .broken("return kind >= 0 && kind < KINDS;", "return kind > 0 && kind < KINDS;")
            .broken("return kind >= 0 && kind < KINDS;", "return kind >= 0 && kind < KINDS - 1;")
            .broken("return kind >= 0 && kind < KINDS;", "return kind >= 0 && kind <= KINDS;")
            .broken("return kind >= 0 && kind < KINDS;", "return kind < KINDS;")
            .broken("{NONE, SALE_KIND, SALE_KIND, RAIL_KIND,", "{NONE, SALE_KIND, RAIL_KIND, RAIL_KIND,")
            .broken("LANDED_KIND, PAPER_KIND};", "LANDED_KIND, RAIL_KIND};"));
        all.add(new Edge("Terms 1", "who sells, who buys (unlike)", EdgesOfTerms::unlikeHands)
            .broken("if (seller == buyer) {", "if (seller == buyer && seller != 0) {")
            .broken("if (seller == buyer) {", "if (seller == buyer && seller != 9) {"));
        all.add(new Edge("Terms 1", "an AMOUNT (1 .. 999), a PRICE of one", EdgesOfTerms::amountOfSale)
            .broken("goods == null || !isAmount(amount) ||", "goods == null || amount < 0 || amount > MOST ||")
            .broken("goods == null || !isAmount(amount) ||", "goods == null || amount < 2 || amount > MOST ||")
            .broken("goods == null || !isAmount(amount) ||", "goods == null || amount < 1 || amount >= MOST ||")
            .broken("goods == null || !isAmount(amount) ||",
                    "goods == null || amount < 1 || amount > goods.amount ||"));
        all.add(new Edge("Terms 1", "a PRICE of one (0 .. 999)", EdgesOfTerms::price)
            .broken("price < 0 || price > MOST ||", "price < 1 || price > MOST ||")
            .broken("price < 0 || price > MOST ||", "price < -1 || price > MOST ||")
            .broken("price < 0 || price > MOST ||", "price < 0 || price >= MOST ||")
            .broken("price < 0 || price > MOST ||", "price < 0 || price > MOST + 1 ||"));
        all.add(new Edge("Terms 1", "the HOUR in which its PAPER is handed on (NONE at first)",
                EdgesOfTerms::paperAtFirst)
            .broken("int paper = NONE;", "int paper = 0;")
            .broken("int paper = NONE;", "int paper = NOT_YET;"));
    }

    private static void sales() {
        RailCargo x = Made.cargo(10);
        for (int number = 0; number < 24; number++) {
            Due.is("no such sale yet", x.told(number, 5), -5);
            Due.is("sale " + number, x.sale(3, 1, 1, number, 1), number);
            Due.is("there it is", x.told(number, 5), number);
        }
        Due.is("a 25th", x.sale(3, 1, 1, 1, 1), -4);
        int[] none = {-1, 24};
        for (int number : none) {
            Due.is("paper of sale " + number, x.paper(number, 0), BAD);
            Due.is("pay of sale " + number, x.pay(number, 0), BAD);
            Due.is("told of sale " + number, x.told(number, 0), -5);
            Due.is("owes of sale " + number, x.owes(number, 0), Made.NO);
            Due.is("two of sale " + number, x.two(number, 1000, 2000), BAD);
            Due.is("moves of sale " + number, x.moves(number, 0, 0), Made.NO);
            Due.is("taken of sale " + number, x.taken(number, 0), -11);
        }
        Due.is("all of them as bits", x.stops(1, 1), (1 << 24) - 1);
        Due.is("bits of none such", x.closes(1 << 24), BAD);
        Due.is("bits of the last one", x.closes(1 << 23), 0);
    }

    private static void kinds() {
        Made.within("sale", BAD, 0, 5, (x, kind) -> x.sale(kind, 1, 1, 1, 1));
        Made.within("moves", Made.NO, 0, 5, (x, kind) -> x.moves(0, 10 * kind, 0));
        Made.within("taken", BAD, 0, 5, (x, kind) -> x.taken(0, kind));
        RailCargo x = Made.kinds();
        int[] under = {0, 0, 0, 1, 2, 3};
        for (int kind = 0; kind < 6; kind++) {
            Due.is("its own kind", x.told(kind, 0), kind);
            Due.is("taken for its own kind", x.taken(kind, kind), 1);
            Due.is("taken for the kind it stands under", x.taken(kind, under[kind]), 1);
            Due.is("taken for a SALE", x.taken(kind, 0), 1);
        }
        int[][] beside = {{0, 1}, {1, 2}, {2, 1}, {3, 2}, {3, 5}, {4, 1}, {4, 3}, {5, 2}, {5, 4}};
        for (int[] pair : beside) {
            Due.is(pair[0] + " taken for " + pair[1], x.taken(pair[0], pair[1]), -13);
        }
    }

    private static void unlikeHands() {
        for (int hand = 0; hand < 10; hand++) {
            Due.is("hand " + hand + " to itself", Made.cargo(1).sale(0, 11 * hand, 1, 1, 1), BAD);
        }
    }

    private static void amountOfSale() {
        Made.within("sale", BAD, 1, 999, (x, amount) -> x.sale(0, 1, amount, 1, 1));
        Made.refused("sale", BAD, (x, amount) -> x.sale(0, 1, amount, 1, 1), -1, Made.MIN, Made.MAX);
        Due.is("more than the cargo has", Made.cargo(1).sale(0, 1, 2, 1, 1), 0);
    }

    private static void price() {
        Made.within("sale", BAD, 0, 999, (x, price) -> x.sale(0, 1, 1, price, 1));
        Made.refused("sale", BAD, (x, price) -> x.sale(0, 1, 1, price, 1), Made.MIN, Made.MAX);
    }

    private static void paperAtFirst() {
        RailCargo x = Made.kinds();
        for (int sale = 0; sale < 6; sale++) {
            Due.is("the paper of " + sale, x.told(sale, 7), -1);
        }
        Due.is("none is handed on", x.count(5), 0);
        Due.is("what was", x.paper(3, 0), -1);
    }

    /** One sale of a kind at hour 20. */
    private static RailCargo one(int kind) {
        RailCargo x = Made.cargo(10);
        x.sale(kind, 1, 1, 1, 20);
        return x;
    }

    /** Just ahead of the sale's hour, in it, just behind it, at both ends, and not yet: all else has its hour. */
    private static void laterOf(int kind, int told, Made.Asked event) {
        int[] hours = {0, 19, 20, 21, 999, -1};
        int[] passes = {20, 20, 20, 21, 999, 1000};
        RailCargo x = one(kind);
        for (int what = 0; what < 3; what++) {
            x.hour(0, what, 5);
        }
        x.paper(0, 5);
        for (int i = 0; i < hours.length; i++) {
            event.of(x, hours[i]);
            Due.is("kind " + kind + " told " + told + " with " + hours[i], x.told(0, told), passes[i]);
        }
    }

    private static final Made.Asked LOADED = (x, h) -> x.hour(0, 0, h), LANDED = (x, h) -> x.hour(0, 1, h),
            APART = (x, h) -> x.hour(0, 2, h), PAPER = (x, h) -> x.paper(0, h);

    private static void atItsHour(int told) {
        int[] hours = {0, 19, 999};
        for (int hour : hours) {
            RailCargo x = Made.cargo(10);
            x.sale(0, 1, 1, 1, hour);
            Due.is("nothing yet, told " + told, x.told(0, told), hour);
            x.hour(0, 0, 500);
            x.hour(0, 1, 500);
            x.hour(0, 2, 500);
            x.paper(0, 500);
            Due.is("all else later, told " + told, x.told(0, told), hour);
        }
    }

    private static void addThing(List<Edge> all) {
        all.add(new Edge("Terms 1", "THING passes (an HOUR, or 1000: not yet): SALE: at its HOUR", () -> atItsHour(9))
            .broken("laterOf(paper, hour); default: return hour;", "laterOf(paper, hour); default: return hour + 1;")
            .broken("laterOf(paper, hour); default: return hour;", "laterOf(paper, hour); default:"
                    + " return laterOf(paper, hour);"));
        all.add(new Edge("Terms 1",
                "RAIL: at its CARGO's LOADED, or its HOUR, whichever is later (1000: it isn't LOADED)",
                () -> laterOf(1, 9, LOADED))
            .broken("case RAIL_KIND: return laterOf(cargo.hours[LOADED], hour);",
                    "case RAIL_KIND: return cargo.hours[LOADED] == NONE ? NOT_YET : cargo.hours[LOADED];")
            .broken("return event == NONE ? NOT_YET : Math.max(event, hour);", "return Math.max(event, hour);")
            .broken("return event == NONE ? NOT_YET : Math.max(event, hour);",
                    "return event <= 0 ? NOT_YET : Math.max(event, hour);")
            .broken("NOT_YET = 1000", "NOT_YET = 1001"));
        all.add(new Edge("Terms 1", "LANDED: likewise with its LANDED", () -> laterOf(2, 9, LANDED))
            .broken("case LANDED_KIND: return laterOf(cargo.hours[LANDED], hour);",
                    "case LANDED_KIND: return laterOf(cargo.hours[LOADED], hour);")
            .broken("case LANDED_KIND: return laterOf(cargo.hours[LANDED], hour);",
                    "case LANDED_KIND: return cargo.hours[LANDED] < hour ? hour : cargo.hours[LANDED];"));
        all.add(new Edge("Terms 1",
                "PAPER: as its PAPER is handed on, or its HOUR, whichever is later (1000: it isn't)",
                () -> laterOf(3, 9, PAPER))
            .broken("case PAPER_KIND: case STRING_KIND: return laterOf(paper, hour);",
                    "case PAPER_KIND: return paper == NONE ? NOT_YET : paper; case STRING_KIND:"
                    + " return laterOf(paper, hour);")
            .broken("case PAPER_KIND: case STRING_KIND: return laterOf(paper, hour);",
                    "case PAPER_KIND: return Math.max(paper, hour); case STRING_KIND: return laterOf(paper, hour);"));
        all.add(new Edge("Terms 1", "HEAP: as a LANDED one's, or APART, whichever is later", EdgesOfTerms::thingOfHeap)
            .broken("laterOf(cargo.hours[APART], laterOf(cargo.hours[LANDED], hour));",
                    "laterOf(cargo.hours[APART], hour);")
            .broken("laterOf(cargo.hours[APART], laterOf(cargo.hours[LANDED], hour));",
                    "laterOf(cargo.hours[LANDED], hour);")
            .broken("laterOf(cargo.hours[APART], laterOf(cargo.hours[LANDED], hour));",
                    "Math.max(cargo.hours[APART], laterOf(cargo.hours[LANDED], hour));"));
        all.add(new Edge("Terms 1", "STRING: as a PAPER's.", () -> laterOf(5, 9, PAPER))
            .broken("case PAPER_KIND: case STRING_KIND: return laterOf(paper, hour);",
                    "case PAPER_KIND: return laterOf(paper, hour); case STRING_KIND: return Math.max(paper, hour);")
            .broken("case PAPER_KIND: case STRING_KIND: return laterOf(paper, hour);",
                    "case PAPER_KIND: return laterOf(paper, hour); case STRING_KIND: return lossHour();"));
    }

    private static void thingOfHeap() {
        laterOf(4, 9, LANDED);
        laterOf(4, 9, APART);
        RailCargo x = one(4);
        x.hour(0, 1, 30);
        Due.is("landed, not apart", x.told(0, 9), 1000);
        x.hour(0, 2, 29);
        Due.is("apart ahead of landing", x.told(0, 9), 30);
        x.hour(0, 2, 30);
        Due.is("apart in that hour", x.told(0, 9), 30);
        x.hour(0, 2, 31);
        Due.is("apart behind it", x.told(0, 9), 31);
        x.hour(0, 1, -1);
        Due.is("apart, not landed", x.told(0, 9), 1000);
    }

    private static void addLoss(List<Edge> all) {
        all.add(new Edge("Terms 1", "LOSS passes: SALE: as its THING", () -> atItsHour(10))
            .broken("halfWayTo(laterOf(cargo.hours[LOADED], hour)); default: return hour;",
                    "halfWayTo(laterOf(cargo.hours[LOADED], hour)); default: return hour + 1;"));
        all.add(new Edge("Terms 1", "RAIL: as a RAIL's THING", () -> laterOf(1, 10, LOADED))
            .broken("case RAIL_KIND: case PAPER_KIND: return laterOf(cargo.hours[LOADED], hour);",
                    "case RAIL_KIND: return hour; case PAPER_KIND: return laterOf(cargo.hours[LOADED], hour);"));
        all.add(new Edge("Terms 1", "LANDED: as its THING", () -> laterOf(2, 10, LANDED))
            .broken("case LANDED_KIND: case HEAP_KIND: return laterOf(cargo.hours[LANDED], hour);",
                    "case LANDED_KIND: return hour; case HEAP_KIND: return laterOf(cargo.hours[LANDED], hour);"));
        all.add(new Edge("Terms 1", "PAPER: as a RAIL's LOSS", () -> laterOf(3, 10, LOADED))
            .broken("case RAIL_KIND: case PAPER_KIND: return laterOf(cargo.hours[LOADED], hour);",
                    "case PAPER_KIND: return thingHour(); case RAIL_KIND: return laterOf(cargo.hours[LOADED], hour);"));
        all.add(new Edge("Terms 1", "HEAP: as a LANDED one's THING", () -> laterOf(4, 10, LANDED))
            .broken("case LANDED_KIND: case HEAP_KIND: return laterOf(cargo.hours[LANDED], hour);",
                    "case HEAP_KIND: return hour; case LANDED_KIND: return laterOf(cargo.hours[LANDED], hour);"));
        all.add(new Edge("Terms 1", "STRING: its HOUR and half (cut) of the HOURS from that to a PAPER's LOSS"
                + " (1000, if that is 1000)", EdgesOfTerms::lossOfString)
            .broken("return end == NOT_YET ? NOT_YET : hour + (end - hour) / 2;", "return hour + (end - hour) / 2;")
            .broken("return end == NOT_YET ? NOT_YET : hour + (end - hour) / 2;",
                    "return end >= LAST_HOUR ? NOT_YET : hour + (end - hour) / 2;")
            .broken("return halfWayTo(laterOf(cargo.hours[LOADED], hour));",
                    "return cargo.hours[LOADED] == NONE ? NOT_YET : halfWayTo(cargo.hours[LOADED]);"));
    }

    private static void lossOfString() {
        RailCargo x = one(5);
        x.paper(0, 700);
        x.hour(0, 1, 700);
        Due.is("not loaded", x.told(0, 10), 1000);
        int[] hours = {0, 19, 20, 21, 22, 23, 998, 999};
        int[] passes = {20, 20, 20, 20, 21, 21, 509, 509};
        for (int i = 0; i < hours.length; i++) {
            x.hour(0, 0, hours[i]);
            Due.is("loaded at " + hours[i], x.told(0, 10), passes[i]);
        }
        RailCargo last = Made.cargo(10);
        last.sale(5, 1, 1, 1, 999);
        last.hour(0, 0, 0);
        Due.is("in the last hour", last.told(0, 10), 999);
    }

    private static void addWhose(List<Edge> all) {
        all.add(new Edge("Terms 1", "at first all of it is the first HAND's", EdgesOfTerms::allTheFirsts)
            .broken("held[goods.firstHand] = goods.amount;", "held[0] = goods.amount;")
            .broken("held[goods.firstHand] = goods.amount;", "held[goods.firstHand] = goods.amount - 1;"));
        all.add(new Edge("Terms 1", "all SALES of it whose THING passed by then", EdgesOfTerms::passedByThen)
            .broken("done < size && passes[done] <= hour;", "done < size && passes[done] < hour;")
            .broken("done < size && passes[done] <= hour;", "done < size && passes[done] <= hour + 1;")
            .broken("NOT_YET = 1000", "NOT_YET = 999"));
        all.add(new Edge("Terms 1", "in order of the HOURS in which it passed, of like ones by numbers",
                EdgesOfTerms::order)
            .broken("place > 0 && passes[place - 1] > pass;", "place > 0 && passes[place - 1] >= pass;")
            .broken("place > 0 && passes[place - 1] > pass;", "place > 0 && passes[place - 1] > NOT_YET;"));
        all.add(new Edge("Terms 1", "AMOUNT of the seller's, no more than the seller has then, is the buyer's",
                EdgesOfTerms::noMore)
            .broken("int amount = Math.min(sold.amount, held[sold.seller]);", "int amount = sold.amount;")
            .broken("int amount = Math.min(sold.amount, held[sold.seller]);",
                    "int amount = sold.amount > held[sold.seller] ? 0 : sold.amount;")
            .broken("int amount = Math.min(sold.amount, held[sold.seller]);",
                    "int amount = sold.amount >= held[sold.seller] ? 0 : sold.amount;"));
        all.add(new Edge("Terms 1", "AT RISK likewise by LOSS.", EdgesOfTerms::atRisk)
            .broken("return what == THING ? thingHour() : lossHour();", "return thingHour();")
            .broken("return what == THING ? thingHour() : lossHour();", "return lossHour();"));
        all.add(new Edge("Terms 1", "A LOSS of so much (0 .. AMOUNT of the CARGO)", EdgesOfTerms::lossOfSoMuch)
            .broken("if (lost > goods.amount) {", "if (lost >= goods.amount) {")
            .broken("if (lost > goods.amount) {", "if (lost > goods.amount + 1) {")
            .broken("if (lost > goods.amount) {", "if (lost < 1 || lost > goods.amount) {"));
        all.add(new Edge("Terms 1",
                "the least, the greatest part AT RISK of a HAND at any HOUR from the one to the other",
                EdgesOfTerms::fromTheOneToTheOther)
            .broken("ledger.nextHour() <= to;", "ledger.nextHour() < to;")
            .broken("ledger.nextHour() <= to;", "ledger.nextHour() <= to + 1;")
            .broken("ledger.runTo(from);", "ledger.runTo(from - 1);")
            .broken("ledger.runTo(from);", ""));
    }

    private static void allTheFirsts() {
        int[] hands = {0, 9};
        for (int hand : hands) {
            RailCargo x = new RailCargo();
            x.cargo(999, hand);
            Due.is("its own", x.whose(0, hand, 0, 0), 999);
            Due.is("at its risk", x.whose(0, hand, 999, 1), 999);
            Due.is("the other end's", x.whose(0, 9 - hand, 0, 0), 0);
        }
    }

    private static void passedByThen() {
        RailCargo x = Made.cargo(10);
        x.sale(0, 1, 3, 1, 20);
        x.sale(0, 2, 4, 1, 999);
        x.sale(1, 3, 2, 1, 0);
        x.sale(0, 4, 1, 1, 0);
        Made.holds(x, 0, 0, 9, 0, 0, 0, 1);
        Made.holds(x, 19, 0, 9, 0, 0, 0, 1);
        Made.holds(x, 20, 0, 6, 3, 0, 0, 1);
        Made.holds(x, 998, 0, 6, 3, 0, 0, 1);
        Made.holds(x, 999, 0, 2, 3, 4, 0, 1);
    }

    private static void order() {
        RailCargo x = Made.cargo(10);
        x.sale(0, 12, 10, 1, 6);
        x.sale(0, 1, 10, 1, 5);
        Made.holds(x, 6, 0, 0, 0, 10);
        RailCargo like = Made.cargo(10);
        like.sale(0, 12, 10, 1, 5);
        like.sale(0, 1, 10, 1, 5);
        Made.holds(like, 5, 0, 0, 10, 0);
        RailCargo twice = Made.cargo(10);
        twice.sale(0, 1, 6, 1, 5);
        twice.sale(0, 2, 6, 1, 5);
        twice.sale(0, 12, 6, 1, 5);
        Made.holds(twice, 5, 0, 0, 0, 10);
    }

    private static void noMore() {
        RailCargo x = Made.cargo(10);
        x.sale(0, 12, 5, 1, 1);
        x.sale(0, 1, 9, 1, 2);
        x.sale(0, 3, 2, 1, 3);
        x.sale(0, 4, 1, 1, 4);
        x.sale(0, 15, 9, 1, 5);
        Made.holds(x, 1, 0, 10, 0, 0, 0, 0, 0);
        Made.holds(x, 2, 0, 1, 9, 0, 0, 0, 0);
        Made.holds(x, 3, 0, 0, 9, 0, 1, 0, 0);
        Made.holds(x, 4, 0, 0, 9, 0, 1, 0, 0);
        Made.holds(x, 5, 0, 0, 0, 0, 1, 0, 9);
    }

    private static void atRisk() {
        RailCargo x = Made.cargo(10);
        x.sale(3, 1, 4, 1, 10);
        x.hour(0, 0, 15);
        x.paper(0, 20);
        Made.holds(x, 14, 1, 10, 0);
        Made.holds(x, 15, 1, 6, 4);
        Made.holds(x, 19, 0, 10, 0);
        Made.holds(x, 20, 0, 6, 4);
    }

    private static void lossOfSoMuch() {
        int[] amounts = {1, 12, 998};
        for (int amount : amounts) {
            RailCargo x = Made.cargo(amount);
            Due.is("none of " + amount, x.falls(0, 0, 5000, 0), 0);
            Due.is("none of " + amount, x.falls(0, 0, 5000, 1), 1);
            Due.is("all of " + amount, x.falls(0, 0, 5000 + amount, 0), amount);
            Due.is("all of " + amount, x.falls(0, 0, 5000 + amount, 1), 1);
            Due.is("more than all of " + amount, x.falls(0, 0, 5000 + amount + 1, 0), Made.NO);
            Due.is("more than all of " + amount, x.falls(0, 0, 5000 + amount + 1, 1), Made.NO);
        }
    }

    private static void fromTheOneToTheOther() {
        RailCargo x = Made.cargo(10);
        x.sale(0, 1, 6, 1, 20);
        x.sale(0, 12, 4, 1, 30);
        int[][] want = {{0, 19, 0, 0}, {0, 20, 0, 6}, {19, 20, 0, 6}, {20, 20, 6, 6}, {20, 29, 6, 6}, {20, 30, 2, 6},
            {29, 30, 2, 6}, {30, 30, 2, 2}, {30, 999, 2, 2}, {0, 999, 0, 6}, {999, 999, 2, 2}, {0, 0, 0, 0}};
        for (int[] w : want) {
            Due.is("least from " + w[0] + " to " + w[1], x.between(0, 1, 1000 * w[0] + w[1], 0), w[2]);
            Due.is("greatest from " + w[0] + " to " + w[1], x.between(0, 1, 1000 * w[0] + w[1], 1), w[3]);
        }
    }
}
