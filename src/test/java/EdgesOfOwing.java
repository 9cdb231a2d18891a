import java.util.List;

/** Boundary cases that the second part of the terms names: owing, rings, one who fails, images. */
final class EdgesOfOwing {
    private EdgesOfOwing() {
    }

    static void addTo(List<Edge> all) {
        addOwing(all);
        addRings(all);
        addFailing(all);
        addSetsAndHours(all);
        addImages(all);
    }

    private static void addOwing(List<Edge> all) {
        all.add(new Edge("Terms 2", "PAID: coin for a SALE (0 .. 999999 in all)", EdgesOfOwing::paid)
            .broken("MOST_PAID = 999999", "MOST_PAID = 999998")
            .broken("MOST_PAID = 999999", "MOST_PAID = 1000000")
            .broken("return coin >= 0 &&", "return coin > 0 &&")
            .broken("return coin >= 0 &&", "return coin >= -1 &&"));
        all.add(new Edge("Terms 2", "OWES of a SALE at an HOUR (from its HOUR on; 0 ahead of it)",
                EdgesOfOwing::fromItsHour)
            .broken("if (hour < sold.hour) { return 0;", "if (hour <= sold.hour) { return 0;")
            .broken("if (hour < sold.hour) { return 0;", "if (hour + 1 < sold.hour) { return 0;")
            .broken("if (hour < sold.hour) { return 0;", "if (hour < sold.hour) { return -sold.paid;"));
        all.add(new Edge("Terms 2", "less what was PAID (below 0: that it gets back)", EdgesOfOwing::getsBack)
            .broken("return sold.due() + late - cut - sold.paid;",
                    "return Math.max(0, sold.due() + late - cut - sold.paid);")
            .broken("return sold.due() + late - cut - sold.paid;",
                    "return sold.due() + late - cut - Math.min(sold.paid, sold.due());"));
        all.add(new Edge("Terms 2", "BALANCE of a HAND: what all that buy of it owe it, less what it owes, together.",
                EdgesOfOwing::balance)
            .broken("if (sold.seller == hand) { sum += owedFor(sold, hour);",
                    "if (sold.seller == hand) { sum += Math.max(0L, owedFor(sold, hour));")
            .broken("} else if (sold.buyer == hand) { sum -= owedFor(sold, hour);",
                    "} else if (sold.buyer == hand) { sum -= Math.max(0L, owedFor(sold, hour));")
            .broken("} else if (sold.buyer == hand) { sum -= owedFor(sold, hour);",
                    "} else if (sold.buyer == hand) { sum += owedFor(sold, hour);"));
    }

    private static void paid() {
        RailCargo x = Made.cargo(10);
        x.sale(0, 1, 1, 1, 1);
        x.sale(0, 1, 1, 1, 1);
        Due.is("less than none", x.pay(0, -1), -2);
        Due.is("none", x.pay(0, 0), 0);
        Due.is("one", x.pay(0, 1), 1);
        Due.is("one too much", x.pay(0, 999999), -4);
        Due.is("the most", x.pay(0, 999998), 999999);
        Due.is("none more", x.pay(0, 0), 999999);
        Due.is("one more", x.pay(0, 1), -4);
        Due.is("more at once", x.pay(1, 1000000), -2);
        Due.is("the most at once", x.pay(1, 999999), 999999);
        Due.is("told", x.told(0, 8), 999999);
    }

    private static void fromItsHour() {
        RailCargo x = Made.cargo(10);
        x.sale(0, 1, 10, 10, 20);
        x.sale(0, 1, 10, 10, 0);
        x.sale(0, 1, 10, 10, 999);
        x.pay(0, 30);
        Due.is("the first hour", x.owes(0, 0), 0);
        Due.is("just ahead", x.owes(0, 19), 0);
        Due.is("in its hour", x.owes(0, 20), 70);
        Due.is("the last hour", x.owes(0, 999), 71);
        Due.is("from the first hour on", x.owes(1, 0), 100);
        Due.is("ahead of the last hour", x.owes(2, 998), 0);
        Due.is("from the last hour on", x.owes(2, 999), 100);
    }

    private static void getsBack() {
        RailCargo x = Made.cargo(10);
        x.sale(0, 1, 10, 10, 0);
        x.pay(0, 99);
        Due.is("one is owed", x.owes(0, 0), 1);
        x.pay(0, 1);
        Due.is("none is owed", x.owes(0, 0), 0);
        x.pay(0, 1);
        Due.is("one comes back", x.owes(0, 0), -1);
        x.pay(0, 999898);
        Due.is("the most comes back", x.owes(0, 0), -999899);
        Due.is("late all the same", x.owes(0, 51), -999898);
    }

    private static void balance() {
        RailCargo x = Made.cargo(10);
        Due.is("no sales", x.balance(0, 999), 0);
        x.sale(0, 1, 10, 10, 5);
        x.sale(0, 12, 10, 20, 6);
        x.sale(0, 10, 10, 1, 7);
        Due.is("ahead of all", x.balance(1, 4), 0);
        Due.is("it owes", x.balance(1, 5), -100);
        Due.is("it is owed more", x.balance(1, 6), 100);
        Due.is("both ways", x.balance(1, 7), 110);
        Due.is("both ways", x.balance(0, 7), 90);
        x.pay(0, 150);
        Due.is("it gets back what it paid too much", x.balance(1, 7), 260);
        Due.is("the other one gives it back", x.balance(0, 7), -60);
        for (int sale = 3; sale < 24; sale++) {
            x.sale(0, 87, 999, 999, 0);
        }
        Due.is("the most that is owed", x.balance(8, 999), 21 * 998002L);
        Due.is("the most that it owes", x.balance(7, 999), -21 * 998002L);
    }

    private static void addRings(List<Edge> all) {
        all.add(new Edge("Terms 2", "each HAND in them sells as often as it buys", EdgesOfOwing::asOften)
            .broken("if (sellsMore[hand] != 0) {", "if (sellsMore[hand] > 1) {")
            .broken("return amountsAlike(bits) && allSellAsTheyBuy(bits) &&", "return amountsAlike(bits) &&")
            .broken("Arrays.fill(sellsMore, 0);", ""));
        all.add(new Edge("Terms 2", "AMOUNTS are alike", EdgesOfOwing::alike)
            .broken("return amountsAlike(bits) && allSellAsTheyBuy(bits) &&", "return allSellAsTheyBuy(bits) &&")
            .broken("int amount = NONE; for (int i = 0;", "int amount = NONE; for (int i = 1;")
            .broken("&& sales[next].amount == sales[first].amount;", ";"));
        all.add(new Edge("Terms 2", "one can come from each HAND in them to each other one by them",
                EdgesOfOwing::fromEachToEach)
            .broken("&& handsReached(bits) == handsIn(bits);", ";")
            .broken("round < HANDS;", "round < 1;")
            .broken("private int handsIn(int bits) { int hands = 0;", "private int handsIn(int bits) { int hands = 1;")
            .broken("round < HANDS;", "round < HANDS - 3;"));
        all.add(new Edge("Terms 2", "DIFFERENCES of a HAND in a RING", EdgesOfOwing::differences)
            .broken("sum += sales[i].due();", "sum += sales[i].due() - sales[i].paid;")
            .broken("sum -= sales[i].due();", "sum -= sales[i].price;"));
        all.add(new Edge("Terms 2", "(of the first 12 SALES)", EdgesOfOwing::firstTwelve)
            .broken("LOOKED_AT = 12", "LOOKED_AT = 11")
            .broken("LOOKED_AT = 12", "LOOKED_AT = 13"));
        all.add(new Edge("Terms 2", "that closes, some; of the fewest SALES, of like ones the least as bits; NONE",
                EdgesOfOwing::least)
            .broken("if (fewer < 0 || (fewer == 0 && bits < best)) {", "if (best == NONE) {")
            .broken("if (fewer < 0 || (fewer == 0 && bits < best)) {", "if (best == NONE || bits < best) {")
            .broken("if (fewer < 0 || (fewer == 0 && bits < best)) {",
                    "if (fewer < 0 || (fewer != 0 && bits < best)) {")
            .broken("if (fewer < 0 || (fewer == 0 && bits < best)) {", "if (fewer < 0) {")
            .broken("if (fewer < 0 || (fewer == 0 && bits < best)) {", "if (fewer <= 0) {")
            .broken("best = NONE;", "best = 0;"));
    }

    /** Sales of 5 at price 1 of one cargo, by the hands that are told. */
    private static RailCargo ways(int... wheres) {
        RailCargo x = Made.cargo(10);
        for (int where : wheres) {
            x.sale(0, where, 5, 1, 1);
        }
        return x;
    }

    private static void asOften() {
        Due.is("once there, never back", ways(1).closes(1), 0);
        Due.is("there and back", ways(1, 10).closes(3), 1);
        Due.is("twice there, once back", ways(1, 1, 10).closes(7), 0);
        Due.is("twice there, twice back", ways(1, 1, 10, 10).closes(15), 1);
        Due.is("round, and once more", ways(1, 12, 20, 12).closes(15), 0);
        Due.is("a way that does not come back", ways(1, 12, 23).closes(7), 0);
        RailCargo x = ways(1, 12, 20);
        Due.is("not yet round", x.closes(3), 0);
        Due.is("round, though it was asked before", x.closes(7), 1);
    }

    private static void alike() {
        RailCargo x = ways(1, 12);
        x.sale(0, 20, 6, 1, 1);
        x.sale(0, 20, 4, 1, 1);
        Due.is("one more", x.closes(7), 0);
        Due.is("one less", x.closes(11), 0);
        Due.is("none found", x.found(0), -1);
        x.sale(0, 20, 5, 1, 1);
        Due.is("alike", x.closes(19), 1);
        Due.is("found", x.found(0), 19);
        RailCargo first = Made.cargo(10);
        first.sale(0, 1, 6, 1, 1);
        first.sale(0, 12, 5, 1, 1);
        first.sale(0, 20, 5, 1, 1);
        Due.is("the first is more", first.closes(7), 0);
        Due.is("the first is more", first.found(0), -1);
        RailCargo most = Made.cargo(1);
        most.sale(0, 1, 999, 1, 1);
        most.sale(5, 10, 999, 1, 999);
        Due.is("more than there is, unlike kinds and hours", most.closes(3), 1);
    }

    private static void fromEachToEach() {
        RailCargo x = ways(1, 10, 23, 32, 12, 21);
        Due.is("there and back, hand 0 beside", x.closes(4 | 8), 1);
        Due.is("two rings that do not meet", x.closes(15), 0);
        Due.is("two rings, and a ring that joins them", x.closes(63), 1);
        Due.is("two rings that meet in a hand", x.closes(1 | 2 | 16 | 32), 1);
        RailCargo back = ways(98, 87, 76, 65, 54, 43, 32, 21, 10, 9);
        Due.is("round by all hands", back.closes(1023), 1);
        RailCargo late = ways(90, 12, 23, 34, 45, 56, 67, 78, 89, 1);
        Due.is("round by all hands, the other way", late.closes(1023), 1);
        RailCargo slow = ways(10, 21, 32, 43, 54, 65, 76, 87, 98, 9);
        Due.is("round by all hands, each sale ahead of the one that leads to it", slow.closes(1023), 1);
    }

    private static void differences() {
        RailCargo x = Made.cargo(10);
        x.sale(0, 1, 999, 999, 1);
        x.sale(0, 10, 999, 0, 1);
        x.pay(0, 999999);
        x.pay(1, 5);
        Due.is("it sells dear and buys for nothing", x.differ(3, 0), 998001);
        Due.is("the other way", x.differ(3, 1), -998001);
        Due.is("a hand beside", x.differ(3, 2), 0);
    }

    private static void firstTwelve() {
        RailCargo by = ways(1, 1, 1, 1, 1, 1, 1, 1, 1, 1, 1, 10);
        Due.is("by the twelfth", by.found(0), 1 | 1 << 11);
        RailCargo ahead = ways(1, 1, 1, 1, 1, 1, 1, 1, 1, 1, 1, 1, 10);
        Due.is("by the thirteenth", ahead.found(0), -1);
        Due.is("it closes though", ahead.closes(1 | 1 << 12), 1);
    }

    private static void least() {
        Due.is("no sales", Made.cargo(5).found(0), -1);
        Due.is("none closes", ways(1, 12, 23, 1).found(0), -1);
        Due.is("the only one", ways(1, 10).found(0), 3);
        Due.is("the only one, by four hands", ways(1, 12, 23, 30).found(0), 15);
        Due.is("the only one, by all hands", ways(9, 98, 87, 76, 65, 54, 43, 32, 21, 10).found(0), 1023);
        Due.is("the fewest come later", ways(1, 12, 20, 34, 43).found(0), 8 | 16);
        Due.is("the fewest come first", ways(1, 10, 23, 34, 42).found(0), 3);
        Due.is("the fewest, though more as bits", ways(1, 23, 34, 42, 10).found(0), 1 | 16);
        Due.is("of like ones the least", ways(1, 23, 32, 10).found(0), 2 | 4);
        Due.is("of like ones the least", ways(1, 10, 1, 10).found(0), 3);
        Due.is("of like ones the least, found first", ways(1, 10, 23, 32).found(0), 3);
        Due.is("of like ones the least, found later", ways(1, 12, 12, 12, 10, 10).found(0), 1 | 16);
    }

    private static void addFailing(List<Edge> all) {
        all.add(new Edge("Terms 2", "what the first one OWES it then (nothing below 0)", EdgesOfOwing::nothingBelow)
            .broken("sum += Math.max(0L, owedFor(sold, hour));", "sum += owedFor(sold, hour);")
            .broken("sum += Math.max(0L, owedFor(sold, hour));", "sum += Math.max(1L, owedFor(sold, hour));")
            .broken("if (sold.buyer == failing && sold.seller == other &&", "if (sold.buyer == failing &&")
            .broken("if (sold.buyer == failing && sold.seller == other &&", "if (sold.seller == other &&"));
        all.add(new Edge("Terms 2", "by SALES at which the THING passed by then", EdgesOfOwing::thingPassed)
            .broken("sold.seller == other && sold.thingHour() <= hour) {",
                    "sold.seller == other && sold.thingHour() < hour) {")
            .broken("sold.seller == other && sold.thingHour() <= hour) {",
                    "sold.seller == other && sold.lossHour() <= hour) {")
            .broken("sold.seller == other && sold.thingHour() <= hour) {",
                    "sold.seller == other && sold.thingHour() <= hour + 1) {"));
        all.add(new Edge("Terms 2", "STOPS: of SALES to that HAND at which the THING hasn't passed by then",
                EdgesOfOwing::thingHasNotPassed)
            .broken("sold.thingHour() > hour && ruled", "sold.thingHour() >= hour && ruled")
            .broken("sold.thingHour() > hour && ruled", "sold.thingHour() > hour + 1 && ruled")
            .broken("return !handedOn && sold.thingHour() > hour &&", "return !handedOn &&"));
        all.add(new Edge("Terms 2", "of which stop isn't 0, and the PAPER is not handed on by then",
                EdgesOfOwing::notHandedOn)
            .broken("sold.paper != NONE && sold.paper <= hour;", "sold.paper != NONE && sold.paper < hour;")
            .broken("sold.paper != NONE && sold.paper <= hour;", "sold.paper != NONE;")
            .broken("sold.paper != NONE && sold.paper <= hour;", "sold.paper != NONE && sold.paper == hour;")
            .broken("sold.paper != NONE && sold.paper <= hour;", "sold.paper <= hour;")
            .broken("ruled(STOP_PART, sold, hour) != 0;", "true;"));
    }

    private static void nothingBelow() {
        RailCargo x = Made.cargo(10);
        Due.is("no sales", x.loses(10, 999), 0);
        x.sale(0, 1, 10, 10, 0);
        x.sale(0, 1, 10, 1, 0);
        x.pay(0, 99);
        Due.is("one left of the first", x.loses(10, 0), 11);
        x.pay(0, 1);
        Due.is("none left of it", x.loses(10, 0), 10);
        x.pay(0, 5);
        Due.is("what it gets back is not set off", x.loses(10, 0), 10);
        x.pay(1, 11);
        Due.is("nothing at all", x.loses(10, 0), 0);
        x.sale(0, 21, 10, 3, 0);
        x.sale(0, 2, 10, 4, 0);
        Due.is("what it owes another one is not", x.loses(10, 0), 0);
        Due.is("the other one's", x.loses(12, 0), 30);
        Due.is("what another one owes is not", x.loses(20, 0), 40);
    }

    private static void thingPassed() {
        RailCargo x = Made.cargo(10);
        x.sale(3, 1, 10, 10, 20);
        x.hour(0, 0, 0);
        Due.is("not at all", x.loses(10, 999), 0);
        x.paper(0, 30);
        Due.is("just ahead", x.loses(10, 29), 0);
        Due.is("in that hour", x.loses(10, 30), 100);
        x.paper(0, 0);
        Due.is("ahead of its hour", x.loses(10, 19), 0);
        Due.is("in its hour", x.loses(10, 20), 100);
        x.paper(0, 999);
        Due.is("ahead of the last hour", x.loses(10, 998), 0);
        Due.is("in the last hour", x.loses(10, 999), 101);
    }

    private static void thingHasNotPassed() {
        RailCargo x = Made.cargo(10);
        x.sale(1, 1, 1, 1, 20);
        Due.is("not loaded", x.stops(1, 25), 1);
        x.hour(0, 0, 25);
        Due.is("just ahead", x.stops(1, 24), 1);
        Due.is("in that hour", x.stops(1, 25), 0);
        x.hour(0, 0, 0);
        Due.is("ahead of its hour", x.stops(1, 19), 1);
        Due.is("in its hour", x.stops(1, 20), 0);
        Due.is("to another hand", x.stops(0, 0), 0);
        Due.is("the first hour", x.stops(1, 0), 1);
    }

    private static void notHandedOn() {
        RailCargo x = Made.cargo(10);
        x.sale(1, 1, 1, 1, 20);
        Due.is("not at all", x.stops(1, 30), 1);
        x.paper(0, 30);
        Due.is("just ahead", x.stops(1, 29), 1);
        Due.is("in that hour", x.stops(1, 30), 0);
        Due.is("the hour behind", x.stops(1, 31), 0);
        x.paper(0, 0);
        Due.is("in the first hour", x.stops(1, 0), 0);
        x.paper(0, -1);
        Due.is("not yet again", x.stops(1, 0), 1);
        Due.is("stop is not 0", x.stops(1, 39), 1);
        Due.is("stop is 0", x.stops(1, 40), 0);
    }

    private static void addSetsAndHours(List<Edge> all) {
        all.add(new Edge("Terms 2", "the goods are the one's who had them first; of like HOURS the lesser HAND's",
                EdgesOfOwing::hadThemFirst)
            .broken("if (lowerOf(one) == lowerOf(other)) { return Math.min(oneHand, otherHand);",
                    "if (lowerOf(one) == lowerOf(other)) { return oneHand;")
            .broken("if (lowerOf(one) == lowerOf(other)) { return Math.min(oneHand, otherHand);",
                    "if (lowerOf(one) == lowerOf(other)) { return otherHand;")
            .broken("return lowerOf(one) < lowerOf(other) ?", "return lowerOf(one) > lowerOf(other) ?"));
        all.add(new Edge("Terms 2", "of a SALE (of KIND PAPER, or under it)", EdgesOfOwing::underPaper)
            .broken("if (!isUnder(sold.kind, PAPER_KIND)) {", "if (sold.kind != PAPER_KIND) {")
            .broken("if (!isUnder(sold.kind, PAPER_KIND)) {", "if (!isUnder(sold.kind, RAIL_KIND)) {")
            .broken("if (!isUnder(sold.kind, PAPER_KIND)) {", "if (!isUnder(sold.kind, STRING_KIND)) {"));
        all.add(new Edge("Terms 2", "10 and SALE; of like ones the least; NONE: none changes any", EdgesOfOwing::hangs)
            .broken("return byLoaded == most ? LOADED : LANDED;", "return byLanded == most ? LANDED : LOADED;")
            .broken("if (most == 0) { return NONE; }", "")
            .broken("sum += Math.abs(ledger.held[hand] - riskNow[hand]);", "sum += ledger.held[hand] - riskNow[hand];")
            .broken("goods.hours[what] = NONE; ledger", "goods.hours[what] = LAST_HOUR; ledger"));
        all.add(new Edge("Terms 2", "MOVES: what is AT RISK of a HAND at an HOUR more by it", EdgesOfOwing::moves)
            .broken("return after - before;", "return before - after;")
            .broken("return after - before;", "return Math.max(0, after - before);")
            .broken("sold.kind = kind; return after", "return after"));
        all.add(new Edge("Terms 2", "whose HOUR is later, and whose seller has some of it AT RISK at the LOSS",
                EdgesOfOwing::telegraph)
            .broken("sold.hour > hour && ledger.held[sold.seller] > 0",
                    "sold.hour >= hour && ledger.held[sold.seller] > 0")
            .broken("sold.hour > hour && ledger.held[sold.seller] > 0",
                    "sold.hour > hour + 1 && ledger.held[sold.seller] > 0")
            .broken("sold.hour > hour && ledger.held[sold.seller] > 0",
                    "sold.hour > hour && ledger.held[sold.seller] > 1")
            .broken("sold.hour > hour && ledger.held[sold.seller] > 0",
                    "sold.hour > hour && ledger.held[sold.seller] >= 0")
            .broken("if (sold.cargo == goods && sold.hour > hour", "if (sold.hour > hour"));
    }

    private static void hadThemFirst() {
        RailCargo x = Made.kinds();
        Due.is("an hour ahead", x.two(3, 7010, 2011), 7);
        Due.is("an hour behind", x.two(3, 7011, 2010), 2);
        Due.is("an hour ahead", x.two(3, 2010, 7011), 2);
        Due.is("an hour behind", x.two(3, 2011, 7010), 7);
        Due.is("like hours", x.two(3, 7010, 2010), 2);
        Due.is("like hours", x.two(3, 2010, 7010), 2);
        Due.is("the ends of hours", x.two(3, 0, 9999), 0);
        Due.is("the ends of hours", x.two(3, 999, 9000), 9);
        Due.is("the ends of hands", x.two(3, 9999, 999), 0);
    }

    private static void underPaper() {
        int[] due = {-13, -13, -13, 1, -13, 1};
        for (int kind = 0; kind < 6; kind++) {
            Due.is("two sets of kind " + kind, Made.kinds().two(kind, 1000, 2000), due[kind]);
        }
    }

    private static void hangs() {
        RailCargo x = Made.cargo(10);
        x.sale(1, 1, 3, 1, 20);
        x.sale(2, 2, 3, 1, 20);
        x.hour(0, 2, 5);
        x.paper(0, 5);
        Due.is("nothing yet", x.hangs(0, 999, 0), -1);
        Due.is("nothing yet", x.hangs(0, 999, 1), -1);
        x.hour(0, 1, 20);
        Due.is("just ahead", x.hangs(0, 19, 0), -1);
        Due.is("landed", x.hangs(0, 20, 0), 1);
        Due.is("all differences of all hands", x.hangs(0, 20, 1), 6);
        x.hour(0, 0, 999);
        Due.is("the last hour but one", x.hangs(0, 998, 0), 1);
        Due.is("of like ones the least", x.hangs(0, 999, 0), 0);
        Due.is("of like ones the least", x.hangs(0, 999, 1), 6);
        x.sale(4, 3, 1, 1, 20);
        Due.is("landed has more by one", x.hangs(0, 999, 0), 1);
        Due.is("landed has more by one", x.hangs(0, 999, 1), 8);
        x.sale(3, 4, 2, 1, 20);
        Due.is("loaded has more by one", x.hangs(0, 999, 0), 0);
        Due.is("loaded has more by one", x.hangs(0, 999, 1), 10);
        RailCargo none = Made.cargo(10);
        none.hour(0, 0, 0);
        none.hour(0, 1, 0);
        none.hour(0, 2, 0);
        Due.is("no sales", none.hangs(0, 999, 0), -1);
    }

    private static void moves() {
        RailCargo x = Made.cargo(10);
        x.sale(1, 1, 10, 1, 20);
        x.hour(0, 0, 30);
        Due.is("ahead of its hour", x.moves(0, 1, 19), 0);
        Due.is("more by all", x.moves(0, 1, 20), 10);
        Due.is("less by all", x.moves(0, 0, 20), -10);
        Due.is("just ahead", x.moves(0, 0, 29), -10);
        Due.is("loaded", x.moves(0, 0, 30), 0);
        Due.is("never by its own kind", x.moves(0, 11, 25), 0);
        Due.is("a hand beside", x.moves(0, 9, 25), 0);
        Due.is("its kind stays", x.told(0, 0), 1);
        Due.is("its loss stays", x.told(0, 10), 30);
    }

    private static void telegraph() {
        RailCargo x = Made.cargo(10);
        x.cargo(10, 3);
        x.sale(0, 1, 10, 1, 21);
        x.sale(0, 31, 1, 1, 500);
        x.sale(0, 131, 1, 1, 21);
        x.sale(0, 12, 10, 1, 999);
        Due.is("the next hour", x.telegraph(0, 20), 1);
        Due.is("in its hour", x.telegraph(0, 21), 8);
        Due.is("the last hour but one", x.telegraph(0, 998), 8);
        Due.is("the last hour", x.telegraph(0, 999), 0);
        Due.is("the other cargo", x.telegraph(1, 20), 4);
        Due.is("the other cargo, in its hour", x.telegraph(1, 21), 0);
        RailCargo one = Made.cargo(10);
        one.sale(0, 1, 9, 1, 5);
        one.sale(0, 2, 1, 1, 10);
        one.sale(0, 3, 1, 1, 15);
        Due.is("one is left at its risk", one.telegraph(0, 9), 2 | 4);
        Due.is("none is left at its risk", one.telegraph(0, 10), 0);
    }

    private static void addImages(List<Edge> all) {
        all.add(new Edge("Terms 2", "AN IMAGE keeps HOURS of CARGOES, HOURS of PAPERS, what was PAID, THE RULE",
                EdgesOfOwing::keeps)
            .broken("System.arraycopy(keptHours, 0, hours, 0, CARGO_HOURS);",
                    "System.arraycopy(keptHours, 0, hours, 0, CARGO_HOURS - 1);")
            .broken("paper = keptPaper;", "").broken("paid = keptPaid;", "").broken("rule = imageRule;", "")
            .broken("imageCargoes = cargoCount;", "imageCargoes = cargoCount - 1;")
            .broken("imageSales = saleCount;", "imageSales = saleCount - 1;"));
        all.add(new Edge("Terms 2", "(CARGOES, SALES that came since stay as they are)", EdgesOfOwing::cameSince)
            .broken("i < imageCargoes;", "i < cargoCount;")
            .broken("i < imageSales;", "i < saleCount;")
            .broken("rule = imageRule; return saleCount;",
                    "rule = imageRule; saleCount = imageSales; return saleCount;")
            .broken("rule = imageRule; return saleCount;", "rule = imageRule; return imageSales;"));
    }

    private static void keeps() {
        RailCargo x = Made.full();
        int[] was = {-1, 0, 999};
        for (int what = 0; what < 3; what++) {
            x.hour(0, what, was[what]);
            x.hour(3, what, was[what]);
        }
        x.paper(0, 0);
        x.paper(22, 999);
        x.force(5);
        Due.is("24 sales", x.image(), 24);
        for (int what = 0; what < 3; what++) {
            x.hour(0, what, 500);
            x.hour(3, what, 500);
        }
        x.paper(0, -1);
        x.paper(22, -1);
        x.paper(23, 7);
        x.force(0);
        Due.is("24 sales", x.back(), 24);
        Due.is("the rule", x.count(4), 5);
        Due.is("the first paper", x.told(0, 7), 0);
        Due.is("the last paper but one", x.told(22, 7), 999);
        Due.is("the last paper", x.told(23, 7), -1);
        for (int what = 0; what < 3; what++) {
            Due.is("hour of the first cargo", x.hour(0, what, -1), was[what]);
            Due.is("hour of the last cargo", x.hour(3, what, -1), was[what]);
        }
        RailCargo y = Made.kinds();
        y.image();
        y.pay(0, 999999);
        y.pay(5, 1);
        y.back();
        Due.is("nothing was paid", y.count(6), 0);
        Due.is("so much can be paid again", y.pay(0, 999999), 999999);
    }

    private static void cameSince() {
        RailCargo x = new RailCargo();
        Due.is("an image of nothing", x.image(), 0);
        x.cargo(10, 0);
        x.sale(3, 1, 1, 1, 1);
        for (int what = 0; what < 3; what++) {
            x.hour(0, what, 50 + what);
        }
        x.paper(0, 60);
        x.pay(0, 70);
        Due.is("one sale", x.back(), 1);
        Due.is("cargoes", x.count(0), 1);
        Due.is("sales", x.count(1), 1);
        Due.is("its paper", x.told(0, 7), 60);
        Due.is("what was paid for it", x.told(0, 8), 70);
        for (int what = 0; what < 3; what++) {
            Due.is("its hours", x.hour(0, what, -1), 50 + what);
        }
    }
}
