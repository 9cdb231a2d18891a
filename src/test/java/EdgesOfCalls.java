import java.util.List;

/** Boundary cases that promises 1 to 27 name, each promise's own. */
final class EdgesOfCalls {
    private static final int BAD = -2, MIN = Made.MIN, MAX = Made.MAX;
    private static final long NO = Made.NO;

    private EdgesOfCalls() {
    }

    static void addTo(List<Edge> all) {
        addCargoes(all);
        addPapers(all);
        addWhose(all);
        addTexts(all);
        addOwing(all);
        addRings(all);
        addFailing(all);
        addWords(all);
        addImages(all);
    }

    private static void addCargoes(List<Edge> all) {
        all.add(new Edge("Promise 1", "No CARGOES.", EdgesOfCalls::newObject)
            .broken("private int cargoCount;", "private int cargoCount = 1;")
            .broken("private int saleCount; private final Text[]", "private int saleCount = 1; private final Text[]")
            .broken("textCount = 1;", "textCount = 0;")
            .broken("textCount = 1; reader.empty();", "textCount = 1;")
            .broken("private boolean hasImage;", "private boolean hasImage = true;")
            .broken("int sort = MISSING;", "int sort;")
            .broken("private int rule;", "private int rule = 1;"));
        all.add(new Edge("Promise 2", "A CARGO: its number. BAD; FULL.", EdgesOfCalls::cargo)
            .broken("if (!isAmount(amount) || !isHand(hand)) {", "if (!isAmount(amount)) {")
            .broken("if (!isAmount(amount) || !isHand(hand)) {", "if (!isHand(hand)) {")
            .broken("if (cargoCount >= CARGOES) { return FULL;", "if (cargoCount >= CARGOES) { return BAD;"));
        all.add(new Edge("Promise 3", "become an HOUR, or NONE: what was. BAD.", EdgesOfCalls::hour)
            .broken("if (goods == null || what < 0 || what >= CARGO_HOURS || !isHourOrNone(hour)) {",
                    "if (goods == null || what < 0 || what >= CARGO_HOURS || !isHour(hour)) {")
            .broken("if (goods == null || what < 0 || what >= CARGO_HOURS || !isHourOrNone(hour)) {",
                    "if (goods == null || what < 0 || what >= CARGO_HOURS) {")
            .broken("if (goods == null || what < 0 || what >= CARGO_HOURS || !isHourOrNone(hour)) {",
                    "if (goods == null || what < 0 || what > CARGO_HOURS || !isHourOrNone(hour)) {")
            .broken("if (goods == null || what < 0 || what >= CARGO_HOURS || !isHourOrNone(hour)) {",
                    "if (goods == null || what < -1 || what >= CARGO_HOURS || !isHourOrNone(hour)) {")
            .broken("if (goods == null || what < 0 || what >= CARGO_HOURS || !isHourOrNone(hour)) {",
                    "if (what < 0 || what >= CARGO_HOURS || !isHourOrNone(hour)) {")
            .broken("goods.hours[what] = hour; return was;", "goods.hours[what] = hour; return hour;"));
        all.add(new Edge("Promise 4", "its number. BAD; FULL.", EdgesOfCalls::sale)
            .broken("if (!isKind(kind) || goods == null || !isAmount", "if (goods == null || !isAmount")
            .broken("|| price > MOST || !isHour(hour)) {", "|| price > MOST) {")
            .broken("|| price > MOST || !isHour(hour)) {", "|| !isHour(hour)) {")
            .broken("if (seller == buyer) { return BAD; }", "")
            .broken("if (saleCount >= SALES) { return FULL;", "if (saleCount >= SALES) { return BAD;"));
        all.add(new Edge("Promise 4", "(where: 100 times CARGO, 10 times who sells, and who buys)", EdgesOfCalls::where)
            .broken("Cargo goods = where < 0 ? null : cargoAt(where / 100);", "Cargo goods = cargoAt(where / 100);")
            .broken("Cargo goods = where < 0 ? null : cargoAt(where / 100);",
                    "Cargo goods = where < 0 ? null : cargoAt(where / 100 % 10);")
            .broken("int seller = where / 10 % 10; int buyer = where % 10;",
                    "int buyer = where / 10 % 10; int seller = where % 10;"));
    }

    private static void newObject() {
        RailCargo x = new RailCargo();
        int[] counts = {0, 0, 1, 0, 0, 0, 0};
        for (int what = 0; what < counts.length; what++) {
            Due.is("count " + what, x.count(what), counts[what]);
        }
        Due.is("no cargo", x.hour(0, 0, 0), BAD);
        Due.is("no cargo", x.whose(0, 0, 0, 0), BAD);
        Due.is("no cargo", x.sale(0, 1, 1, 1, 1), BAD);
        Due.is("no sale", x.told(0, 0), -5);
        Due.is("no sale", x.closes(1), BAD);
        Due.is("none owes", x.balance(0, 999), 0);
        Due.is("none fails", x.loses(1, 999), 0);
        Due.is("none to stop", x.stops(0, 999), 0);
        Due.is("no image", x.back(), -3);
        Due.is("an empty tape", x.text(), -100);
        for (int sheet = 0; sheet < 4; sheet++) {
            Due.is("no sheet", x.cell(sheet, 0, 0), -11);
        }
    }

    private static void cargo() {
        Made.refused("amount", BAD, (x, n) -> x.cargo(n, 0), 0, -1, 1000, MIN, MAX);
        Made.refused("hand", BAD, (x, n) -> x.cargo(1, n), -1, 10, MIN, MAX);
        RailCargo x = new RailCargo();
        Due.is("its number", x.cargo(1, 9), 0);
        Due.is("its number", x.cargo(999, 0), 1);
        Due.is("its number", x.cargo(1, 9), 2);
        Due.is("its number", x.cargo(1, 9), 3);
        Due.is("no room", x.cargo(1, 9), -4);
        Due.is("no room, no such hand", x.cargo(1, 10), BAD);
        Due.is("no room, no such amount", x.cargo(1000, 9), BAD);
    }

    private static void hour() {
        Made.refused("cargo", BAD, (x, n) -> x.hour(n, 0, 0), -1, 1, 4, MIN, MAX);
        Made.refused("what", BAD, (x, n) -> x.hour(0, n, 0), -1, 3, MIN, MAX);
        Made.refused("hour", BAD, (x, n) -> x.hour(0, 0, n), -2, 1000, MIN, MAX);
        RailCargo x = Made.kinds();
        for (int what = 0; what < 3; what++) {
            Due.is("not yet", x.hour(0, what, 0), -1);
            Due.is("the first hour", x.hour(0, what, 999), 0);
            Due.is("the last hour", x.hour(0, what, -1), 999);
            Due.is("not yet again", x.hour(0, what, -1), -1);
        }
    }

    private static void sale() {
        Made.refused("kind", BAD, (x, n) -> x.sale(n, 1, 1, 1, 1), -1, 6, MIN, MAX);
        Made.refused("where", BAD, (x, n) -> x.sale(0, n, 1, 1, 1), -1, 0, 11, 99, 101, 401, 1001, MIN, MAX);
        Made.refused("amount", BAD, (x, n) -> x.sale(0, 1, n, 1, 1), 0, -1, 1000, MIN, MAX);
        Made.refused("price", BAD, (x, n) -> x.sale(0, 1, 1, n, 1), -1, 1000, MIN, MAX);
        Made.refused("hour", BAD, (x, n) -> x.sale(0, 1, 1, 1, n), -1, 1000, MIN, MAX);
        Due.is("its number", Made.kinds().sale(5, 98, 999, 999, 999), 6);
        Due.is("its number", Made.kinds().sale(0, 1, 1, 0, 0), 6);
        Due.is("no room", Made.full().sale(0, 1, 1, 1, 1), -4);
        Due.is("no room, no such kind", Made.full().sale(6, 1, 1, 1, 1), BAD);
        Due.is("no room, hands alike", Made.full().sale(0, 333, 1, 1, 1), BAD);
    }

    private static void where() {
        RailCargo x = Made.cargo(1);
        x.cargo(1, 0);
        x.cargo(1, 0);
        x.cargo(1, 0);
        int[] wheres = {1, 10, 98, 101, 198, 289, 301, 390, 398};
        for (int sale = 0; sale < wheres.length; sale++) {
            Due.is("where " + wheres[sale], x.sale(0, wheres[sale], 1, 1, 1), sale);
            Due.is("cargo of " + wheres[sale], x.told(sale, 1), wheres[sale] / 100);
            Due.is("seller of " + wheres[sale], x.told(sale, 2), wheres[sale] / 10 % 10);
            Due.is("buyer of " + wheres[sale], x.told(sale, 3), wheres[sale] % 10);
        }
        int[] none = {-1, -10, -12, -98, 400, 401, 498, 1001, 1398};
        for (int where : none) {
            Due.is("where " + where, x.sale(0, where, 1, 1, 1), BAD);
        }
    }

    private static void addPapers(List<Edge> all) {
        all.add(new Edge("Promise 5", "is handed on in an HOUR (NONE: not yet): what was. BAD.", EdgesOfCalls::paper)
            .broken("if (sold == null || !isHourOrNone(hour)) {", "if (sold == null || !isHour(hour)) {")
            .broken("if (sold == null || !isHourOrNone(hour)) {", "if (sold == null) {")
            .broken("if (sold == null || !isHourOrNone(hour)) {", "if (!isHourOrNone(hour)) {")
            .broken("sold.paper = hour; return was;", "sold.paper = hour; return hour;"));
        all.add(new Edge("Promise 6", "how much was paid in all. BAD; FULL: above 999999.", EdgesOfCalls::pay)
            .broken("if (sold == null || !isCoin(coin)) {", "if (sold == null || coin < 0) {")
            .broken("if (sold == null || !isCoin(coin)) {", "if (sold == null || coin > MOST_PAID) {")
            .broken("if (sold == null || !isCoin(coin)) {", "if (!isCoin(coin)) {")
            .broken("if (coin > MOST_PAID - sold.paid) {", "if (coin >= MOST_PAID - sold.paid) {")
            .broken("if (coin > MOST_PAID - sold.paid) {", "if (coin > MOST_PAID - sold.paid + 1) {")
            .broken("if (coin > MOST_PAID - sold.paid) { return FULL;",
                    "if (coin > MOST_PAID - sold.paid) { sold.paid = MOST_PAID; return FULL;")
            .broken("sold.paid += coin; return sold.paid;", "sold.paid += coin; return coin;"));
        all.add(new Edge("Promise 7", "9 when the THING passes, 10 when the LOSS does. -5: none such.",
                EdgesOfCalls::told)
            .broken("return sold == null ? NONE_SUCH : sold.tell(what);",
                    "return sold == null ? BAD : sold.tell(what);")
            .broken("case 10: return lossHour(); default: return NONE_SUCH;",
                    "case 10: return lossHour(); default: return BAD;")
            .broken("case 10: return lossHour(); default: return NONE_SUCH;",
                    "case 10: case 11: return lossHour(); default: return NONE_SUCH;")
            .broken("case 0: return kind; case 1: return cargo.number;",
                    "case -1: case 0: return kind; case 1: return cargo.number;"));
    }

    private static void paper() {
        Made.refused("sale", BAD, (x, n) -> x.paper(n, 0), -1, 6, 24, MIN, MAX);
        Made.refused("hour", BAD, (x, n) -> x.paper(0, n), -2, 1000, MIN, MAX);
        RailCargo x = Made.kinds();
        for (int sale = 0; sale < 6; sale++) {
            Due.is("not yet", x.paper(sale, 0), -1);
            Due.is("the first hour", x.paper(sale, 999), 0);
            Due.is("the last hour", x.paper(sale, -1), 999);
            Due.is("not yet again", x.paper(sale, -1), -1);
        }
    }

    private static void pay() {
        Made.refused("sale", BAD, (x, n) -> x.pay(n, 0), -1, 6, 24, MIN, MAX);
        Made.refused("coin", BAD, (x, n) -> x.pay(0, n), -1, 1000000, MIN, MAX);
        RailCargo x = Made.kinds();
        Due.is("none", x.pay(0, 0), 0);
        Due.is("some", x.pay(0, 7), 7);
        Due.is("one too much", x.pay(0, 999993), -4);
        Due.is("far too much", x.pay(0, 999999), -4);
        Due.is("as before", x.told(0, 8), 7);
        Due.is("just as much as can be", x.pay(0, 999992), 999999);
        Due.is("none more", x.pay(0, 0), 999999);
        Due.is("one more", x.pay(0, 1), -4);
        Due.is("no such coin, no room", x.pay(0, 1000000), BAD);
        Due.is("all at once for another", x.pay(5, 999999), 999999);
    }

    private static void told() {
        Made.refused("sale", -5, (x, n) -> x.told(n, 0), -1, 6, 24, MIN, MAX);
        Made.refused("what", -5, (x, n) -> x.told(0, n), -1, 11, MIN, MAX);
        Made.refused("sale and what", -5, (x, n) -> x.told(n, n), -1, 11, MIN, MAX);
        RailCargo x = Made.kinds();
        x.hour(0, 0, 30);
        x.paper(3, 40);
        int[] due = {3, 0, 0, 1, 1, 1, 20, 40, 0, 40, 30};
        for (int what = 0; what < due.length; what++) {
            Due.is("told " + what, x.told(3, what), due[what]);
        }
    }

    private static void addWhose(List<Edge> all) {
        all.add(new Edge("Promise 8", "AT its RISK (1) at an HOUR. BAD.", EdgesOfCalls::whose)
            .broken("|| (what != THING && what != LOSS)) {", "|| what < THING) {")
            .broken("|| (what != THING && what != LOSS)) {", "|| what > LOSS) {")
            .broken("!isHand(hand) || !isHour(hour) || (what != THING && what != LOSS)) {",
                    "!isHand(hand) || (what != THING && what != LOSS)) {")
            .broken("if (goods == null || !isHand(hand) || !isHour(hour) || (what != THING && what != LOSS)) {",
                    "if (goods == null || !isHour(hour) || (what != THING && what != LOSS)) {"));
        all.add(new Edge("Promise 9", "(when: 1000 times the HOUR, and how much is lost)", EdgesOfCalls::when)
            .broken("return pair < 0 ? NONE : pair / 1000;", "return pair / 1000;")
            .broken("return pair < 0 ? NONE : pair / 1000;", "return pair < 0 ? NONE : pair / 999;")
            .broken("return pair < 0 ? NONE : pair % 1000;", "return pair < 0 ? NONE : pair % 999;"));
        all.add(new Edge("Promise 9", "part 0 above, 1 below the line, in lowest terms. NO: none such.",
                EdgesOfCalls::falls)
            .broken("int divisor = commonDivisor(above, goods.amount);", "int divisor = 1;")
            .broken("int divisor = commonDivisor(above, goods.amount);",
                    "int divisor = above == 0 ? 1 : commonDivisor(above, goods.amount);")
            .broken("|| !isHour(upperOf(when)) || (part != 0 && part != 1)) {",
                    "|| !isHour(upperOf(when)) || part < 0) {")
            .broken("|| !isHour(upperOf(when)) || (part != 0 && part != 1)) {",
                    "|| !isHour(upperOf(when)) || part > 1) {")
            .broken("|| !isHour(upperOf(when)) || (part != 0 && part != 1)) {", "|| (part != 0 && part != 1)) {")
            .broken("if (lost > goods.amount) { return NO; }", ""));
        all.add(new Edge("Promise 10", "(hours: 1000 times the one and the other one, not ahead of it)",
                EdgesOfCalls::notAhead)
            .broken("|| to < from ||", "||")
            .broken("|| to < from ||", "|| to <= from ||")
            .broken("|| to < from ||", "|| to + 1 < from ||"));
        all.add(new Edge("Promise 10", "the least (what 0), the greatest (1). BAD.", EdgesOfCalls::between)
            .broken("|| to < from || (what != 0 && what != 1)) {", "|| to < from || what < 0) {")
            .broken("|| to < from || (what != 0 && what != 1)) {", "|| to < from || what > 1) {")
            .broken("|| !isHour(from) || to < from", "|| to < from"));
    }

    private static void whose() {
        Made.refused("cargo", BAD, (x, n) -> x.whose(n, 0, 0, 0), -1, 1, 4, MIN, MAX);
        Made.refused("hand", BAD, (x, n) -> x.whose(0, n, 0, 0), -1, 10, MIN, MAX);
        Made.refused("hour", BAD, (x, n) -> x.whose(0, 0, n, 0), -1, 1000, MIN, MAX);
        Made.refused("what", BAD, (x, n) -> x.whose(0, 0, 0, n), -1, 2, MIN, MAX);
        RailCargo x = Made.kinds();
        x.paper(3, 0);
        Due.is("a hand that has none", x.whose(0, 9, 999, 0), 0);
        Due.is("its own", x.whose(0, 1, 999, 0), 2);
        Due.is("at its risk", x.whose(0, 1, 999, 1), 1);
        RailCargo all = Made.cargo(999);
        Due.is("all", all.whose(0, 0, 0, 0), 999);
        Due.is("all", all.whose(0, 0, 999, 1), 999);
    }

    private static void when() {
        RailCargo x = Made.cargo(999);
        x.sale(0, 1, 333, 1, 5);
        x.sale(0, 1, 333, 1, 999);
        Due.is("none in the first hour", x.falls(0, 0, 0, 0), 0);
        Due.is("all in the first hour", x.falls(0, 0, 999, 0), 999);
        Due.is("one in an hour", x.falls(0, 1, 5001, 1), 3);
        Due.is("all just ahead", x.falls(0, 1, 4999, 0), 0);
        Due.is("all in that hour", x.falls(0, 1, 5999, 0), 333);
        Due.is("all in the last hour", x.falls(0, 1, 999999, 0), 666);
        Due.is("none in the last hour", x.falls(0, 1, 999000, 1), 1);
        int[] none = {-1, -999, -1000, -5001, 1000000, 1000001, MIN, MAX};
        for (int when : none) {
            Due.is("when " + when, x.falls(0, 1, when, 0), NO);
        }
    }

    private static void falls() {
        Made.refused("cargo", NO, (x, n) -> x.falls(n, 0, 0, 0), -1, 1, 4, MIN, MAX);
        Made.refused("hand", NO, (x, n) -> x.falls(0, n, 0, 0), -1, 10, MIN, MAX);
        Made.refused("when", NO, (x, n) -> x.falls(0, 0, n, 0), -1, 11, 999011, 1000000, MIN, MAX);
        Made.refused("part", NO, (x, n) -> x.falls(0, 0, 0, n), -1, 2, MIN, MAX);
        RailCargo x = Made.cargo(12);
        x.sale(0, 1, 5, 1, 10);
        int[] lost = {0, 1, 2, 3, 4, 6, 12};
        int[] above = {0, 5, 5, 5, 5, 5, 5};
        int[] below = {1, 12, 6, 4, 3, 2, 1};
        for (int i = 0; i < lost.length; i++) {
            Due.is("above, of " + lost[i], x.falls(0, 1, 10000 + lost[i], 0), above[i]);
            Due.is("below, of " + lost[i], x.falls(0, 1, 10000 + lost[i], 1), below[i]);
        }
        Due.is("above, of none at its risk", x.falls(0, 2, 10007, 0), 0);
        Due.is("below, of none at its risk", x.falls(0, 2, 10007, 1), 1);
        RailCargo one = Made.cargo(1);
        Due.is("the only one", one.falls(0, 0, 1, 0), 1);
        Due.is("more than the only one", one.falls(0, 0, 2, 0), NO);
    }

    private static void notAhead() {
        RailCargo x = Made.cargo(10);
        int[] fine = {0, 999, 5005, 5006, 998999, 999999};
        int[] none = {5004, 1000, 999998, 999000, 1000000, 1000001, -1, -999, -1000, MIN, MAX};
        for (int hours : fine) {
            Due.is("hours " + hours, x.between(0, 0, hours, 0), 10);
        }
        for (int hours : none) {
            Due.is("hours " + hours, x.between(0, 0, hours, 0), BAD);
            Due.is("hours " + hours, x.between(0, 0, hours, 1), BAD);
        }
    }

    private static void between() {
        Made.refused("cargo", BAD, (x, n) -> x.between(n, 0, 0, 0), -1, 1, 4, MIN, MAX);
        Made.refused("hand", BAD, (x, n) -> x.between(0, n, 0, 0), -1, 10, MIN, MAX);
        Made.refused("hours", BAD, (x, n) -> x.between(0, 0, n, 0), -1, 1000, 1000000, MIN, MAX);
        Made.refused("what", BAD, (x, n) -> x.between(0, 0, 0, n), -1, 2, MIN, MAX);
        RailCargo x = Made.kinds();
        Due.is("the least", x.between(0, 0, 999, 0), 9);
        Due.is("the greatest", x.between(0, 0, 999, 1), 10);
    }

    private static void addTexts(List<Edge> all) {
        all.add(new Edge("Promise 11", "The n lowest bytes of a number, the lowest first, come behind THE TAPE",
                EdgesOfCalls::lowestBytes)
            .broken("reader.put((int) (bytes >>> (8 * i)) & 255);",
                    "reader.put((int) (bytes >>> (8 * (n - 1 - i))) & 255);")
            .broken("reader.put((int) (bytes >>> (8 * i)) & 255);", "reader.put((int) bytes >> (8 * i) & 255);")
            .broken("reader.put((int) (bytes >>> (8 * i)) & 255);", "reader.put((int) (bytes >>> (8 * i)) & 127);"));
        all.add(new Edge("Promise 11", "how many it has. BAD: n is not 1 .. 8. FULL.", EdgesOfCalls::feed)
            .broken("if (n < 1 || n > 8) {", "if (n < 0 || n > 8) {")
            .broken("if (n < 1 || n > 8) {", "if (n < 2 || n > 8) {")
            .broken("if (n < 1 || n > 8) {", "if (n < 1 || n > 9) {")
            .broken("if (n < 1 || n > 8) {", "if (n < 1 || n > 7) {")
            .broken("if (n > reader.room()) {", "if (n >= reader.room()) {")
            .broken("if (n > reader.room()) { return FULL; }", "")
            .broken("if (n > reader.room()) {", "if (reader.room() == 0) {"));
        all.add(new Edge("Promise 12", "THE TAPE, which is empty then (by a FAULT, too), is a TEXT: its number",
                EdgesOfCalls::emptyThen)
            .broken("reader.empty(); return fault == NONE",
                    "if (fault == NONE) { reader.empty(); } return fault == NONE")
            .broken("reader.empty(); return fault == NONE", "return fault == NONE")
            .broken("end < size && (word", "end < TAPE_ROOM && (word")
            .broken("fault = NONE; codeCount = 0;", "fault = NONE;"));
        all.add(new Edge("Promise 12", "-100 less the place of its FAULT", EdgesOfCalls::lessThePlace)
            .broken("FAULT_BASE = -100", "FAULT_BASE = -99")
            .broken("FAULT_BASE - fault", "FAULT_BASE + fault"));
        all.add(new Edge("Promise 12", "FULL (ahead of all): no TEXT more has room (THE TAPE stays).",
                EdgesOfCalls::noTextMore)
            .broken("if (textCount >= TEXTS) { return FULL;", "if (textCount >= TEXTS) { reader.empty(); return FULL;")
            .broken("if (textCount >= TEXTS) {", "if (textCount >= TEXTS && reader.read() == NONE) {")
            .broken("if (textCount >= TEXTS) {", "if (textCount > TEXTS - 2) {"));
        all.add(new Edge("Promise 13", "A TEXT is THE RULE: which was. BAD.", EdgesOfCalls::force)
            .broken("if (text < 0 || text >= textCount) {", "if (text < 1 || text >= textCount) {")
            .broken("if (text < 0 || text >= textCount) {", "if (text < -1 || text >= textCount) {")
            .broken("if (text < 0 || text >= textCount) {", "if (text < 0 || text > textCount) {")
            .broken("if (text < 0 || text >= textCount) {", "if (text < 0 || text >= TEXTS) {")
            .broken("rule = text; return was;", "rule = text; return text;"));
    }

    private static void lowestBytes() {
        RailCargo x = new RailCargo();
        for (int n = 1; n <= 8; n++) {
            Due.is("so many come", x.feed(n, 0x2020_2020_2020_2020L), n);
            Due.is("so many blanks", x.text(), -100 - n);
        }
        x.feed(7, 0x2065_7461_6c20_2020L);
        Due.is("three blanks, late", x.text(), -107);
        x.feed(8, 0x3f20_2020_2020_2020L);
        Due.is("the highest comes last", x.text(), -107);
        x.feed(7, 0x3f20_2020_2020_2020L);
        Due.is("not the highest", x.text(), -107);
        x.feed(6, 0x3f20_2020_2020_2020L);
        Due.is("not the two highest", x.text(), -106);
        x.feed(5, 0x3f3f_3f20_3f20_2020L);
        Due.is("the fourth", x.text(), -103);
        x.feed(8, 0xa020_2020_2020_2020L);
        Due.is("a byte above 127", x.text(), -107);
        x.feed(4, 0x6574_616cL);
        x.feed(1, 0x3f20L);
        x.feed(2, 0x3b30L);
        Due.is("behind what is there", x.count(3), 7);
        Due.is("behind what is there", x.text(), -107);
    }

    private static void feed() {
        Made.refused("n", BAD, (x, n) -> x.feed(n, 0), 0, 9, -1, 64, MIN, MAX);
        RailCargo x = new RailCargo();
        int size = 0;
        for (int n = 1; n <= 8; n++) {
            size += n;
            Due.is("how many it has", x.feed(n, 0), size);
        }
        for (int more = 0; more < 15; more++) {
            x.feed(8, 0);
        }
        Due.is("156", x.feed(1, 0), 157);
        for (int n = 4; n <= 8; n++) {
            Due.is("three have room", x.feed(n, 0), -4);
        }
        Due.is("not one came", x.count(3), 157);
        Due.is("two", x.feed(2, 0), 159);
        Due.is("one has room", x.feed(2, 0), -4);
        Due.is("one", x.feed(1, 0), 160);
        Due.is("none has room", x.feed(1, 0), -4);
        Due.is("none has room, no such n", x.feed(0, 0), BAD);
        Due.is("none has room, no such n", x.feed(9, 0), BAD);
    }

    private static void emptyThen() {
        RailCargo x = new RailCargo();
        Due.is("a fault", Due.text(x, "late 1;cut 1;stop 12345"), -118);
        Due.is("empty", x.count(3), 0);
        Due.is("the empty tape", x.text(), -100);
        Due.feed(x, "late 1;cut 1;stop 1234");
        Due.is("nothing is left of what stood there", x.text(), -122);
        Due.is("a text", Due.text(x, "late 1;cut 1;stop kind;"), 1);
        Due.is("empty", x.count(3), 0);
        Due.is("nothing is left of what stood there", Due.text(x, "late 1;cut 1;stop ki"), -118);
        Due.is("nothing is left of what stood there", Due.text(x, "late 1;cut 1;stop kind"), -122);
        Due.is("room for 160", Due.feed(x, " ".repeat(160)), 160);
        Due.is("all blank", x.text(), -260);
        Due.is("empty", x.count(3), 0);
        Due.is("two texts", x.count(2), 2);
        for (int times = 0; times < 3; times++) {
            Due.is("a long one with a fault", Due.text(x, "late 1" + "+1".repeat(70) + ";"), -247);
        }
        Due.is("a long one", Due.text(x, "late 7" + "+1".repeat(60) + ";cut -1;stop 1;"), 2);
        x.force(2);
        x.cargo(1, 0);
        x.sale(0, 1, 1, 0, 0);
        Due.is("nothing of theirs is left in it", x.owes(0, 0), 67);
    }

    private static void lessThePlace() {
        Due.is("at 0", Due.text(new RailCargo(), "?"), -100);
        Due.is("at 1", Due.text(new RailCargo(), " ?"), -101);
        Due.is("at 159", Due.text(new RailCargo(), " ".repeat(159) + "?"), -259);
        Due.is("at 160", Due.text(new RailCargo(), " ".repeat(160)), -260);
    }

    private static void noTextMore() {
        RailCargo x = new RailCargo();
        for (int text = 1; text < 6; text++) {
            Due.is("there is room", Due.text(x, "late 0;cut 0;stop 0;"), text);
        }
        Due.is("no room, the tape empty", x.text(), -4);
        Due.feed(x, "late ?");
        Due.is("no room, ahead of the fault", x.text(), -4);
        Due.is("the tape stays", x.count(3), 6);
        Due.is("it grows on", Due.feed(x, "0;"), 8);
        Due.is("no room again", x.text(), -4);
        Due.is("the tape stays", x.count(3), 8);
        Due.is("six texts", x.count(2), 6);
    }

    private static void force() {
        Made.refused("text", BAD, (x, n) -> x.force(n), -1, 1, 5, 6, MIN, MAX);
        RailCargo x = Made.full();
        Due.is("the first was", x.force(5), 0);
        Due.is("the last was", x.force(0), 5);
        Due.is("no such", x.force(6), BAD);
        Due.is("no such", x.force(-1), BAD);
        Due.is("the first", x.count(4), 0);
    }

    private static void addOwing(List<Edge> all) {
        all.add(new Edge("Promise 14", "OWES of a SALE at an HOUR. NO: none such.", EdgesOfCalls::owes)
            .broken("return sold == null || !isHour(hour) ? NO : owedFor(sold, hour);",
                    "return sold == null ? NO : owedFor(sold, hour);")
            .broken("return sold == null || !isHour(hour) ? NO : owedFor(sold, hour);",
                    "return sold == null || !isHour(hour) ? BAD : owedFor(sold, hour);")
            .broken("return sold == null || !isHour(hour) ? NO : owedFor(sold, hour);",
                    "return sold == null ? 0 : !isHour(hour) ? NO : owedFor(sold, hour);"));
        all.add(new Edge("Promise 15", "BALANCE of a HAND at an HOUR. NO: none such.", EdgesOfCalls::balance)
            .broken("public long balance(int hand, int hour) { if (!isHand(hand) || !isHour(hour)) {",
                    "public long balance(int hand, int hour) { if (!isHand(hand)) {")
            .broken("public long balance(int hand, int hour) { if (!isHand(hand) || !isHour(hour)) {",
                    "public long balance(int hand, int hour) { if (!isHour(hour)) {"));
    }

    private static void owes() {
        Made.refused("sale", NO, (x, n) -> x.owes(n, 0), -1, 6, 24, MIN, MAX);
        Made.refused("hour", NO, (x, n) -> x.owes(0, n), -1, 1000, MIN, MAX);
        RailCargo x = Made.cargo(1);
        x.sale(0, 1, 999, 999, 0);
        Due.text(x, "late 9999;cut 0;stop 0;");
        x.force(1);
        Due.is("the most", x.owes(0, 999), 1008000);
        RailCargo least = Made.cargo(1);
        least.sale(0, 1, 1, 0, 999);
        least.pay(0, 999999);
        Due.is("the least", least.owes(0, 999), -999999);
    }

    private static void balance() {
        Made.refused("hand", NO, (x, n) -> x.balance(n, 0), -1, 10, MIN, MAX);
        Made.refused("hour", NO, (x, n) -> x.balance(0, n), -1, 1000, MIN, MAX);
        RailCargo x = Made.kinds();
        Due.is("it is owed", x.balance(0, 999), 12);
        Due.is("it owes", x.balance(1, 999), -12);
        Due.is("neither", x.balance(9, 999), 0);
    }

    private static void addRings(List<Edge> all) {
        all.add(new Edge("Promise 16", "BAD: none such; none; of unlike CARGOES.", EdgesOfCalls::closes)
            .broken("if (bits == 0 || bits >>> saleCount != 0) {", "if (bits >>> saleCount != 0) {")
            .broken("if (bits == 0 || bits >>> saleCount != 0) {", "if (bits == 0) {")
            .broken("if (bits == 0 || bits >>> saleCount != 0) {", "if (bits == 0 || bits >> saleCount > 0) {")
            .broken("if (bits == 0 || bits >>> saleCount != 0) {", "if (bits == 0 || bits >>> saleCount > 1) {")
            .broken("if (goods != null && sales[i].cargo != goods) {",
                    "if (goods != null && sales[i].cargo == null) {"));
        all.add(new Edge("Promise 17", "NO: no HAND; BAD (as of closes()); STATE: they do not close.",
                EdgesOfCalls::differ)
            .broken("rings.isRing(this.sales, saleCount, sales) ? differenceOf(hand, sales) : STATE;",
                    "differenceOf(hand, sales);")
            .broken("rings.isRing(this.sales, saleCount, sales) ? differenceOf(hand, sales) : STATE;",
                    "rings.isRing(this.sales, saleCount, sales) ? differenceOf(hand, sales) : NO;")
            .broken("if (!isHand(hand)) { return NO; } if (!areOfOneCargo(sales)) { return BAD; }",
                    "if (!areOfOneCargo(sales)) { return BAD; } if (!isHand(hand)) { return NO; }")
            .broken("if (!isHand(hand)) { return NO; } if (!areOfOneCargo(sales)) { return BAD; }",
                    "if (!areOfOneCargo(sales)) { return BAD; }")
            .broken("if (!isHand(hand)) { return NO; } if (!areOfOneCargo(sales)) { return BAD; }",
                    "if (!isHand(hand)) { return NO; } if (!areOfOneCargo(sales)) { return NO; }"));
        all.add(new Edge("Promise 18", "FOUND (bits). BAD; NONE.", EdgesOfCalls::found)
            .broken("return goods == null ? BAD :", "return goods == null ? NONE :"));
    }

    private static void closes() {
        Made.refused("bits", BAD, (x, n) -> x.closes(n), 0, 1 << 6, 1 | 1 << 6, 127, -1, 1 << 24, MIN, MIN | 1, MAX);
        RailCargo x = Made.cargo(10);
        x.cargo(10, 0);
        x.sale(0, 1, 1, 1, 1);
        x.sale(0, 110, 1, 1, 1);
        x.sale(0, 10, 1, 1, 1);
        Due.is("of unlike cargoes", x.closes(3), BAD);
        Due.is("of unlike cargoes", x.closes(7), BAD);
        Due.is("of one cargo", x.closes(5), 1);
        Due.is("of the other", x.closes(2), 0);
        RailCargo full = Made.full();
        Due.is("the last one", full.closes(1 << 23), 0);
        Due.is("the one behind it", full.closes(1 << 24), BAD);
        Due.is("the last one, and the sign", full.closes(MIN | 1 << 23), BAD);
        Due.is("no sales at all", new RailCargo().closes(1), BAD);
    }

    private static void differ() {
        int[] bits = {0, 1 << 6, 1 | 1 << 6, -1, MIN, MAX};
        for (int sales : bits) {
            Due.is("sales " + sales, Made.kinds().differ(sales, 0), BAD);
            Due.is("sales " + sales + ", no hand", Made.kinds().differ(sales, 10), NO);
        }
        Made.refused("hand", NO, (x, n) -> x.differ(1, n), -1, 10, MIN, MAX);
        Due.is("they do not close", Made.kinds().differ(1, 0), -3);
        Due.is("they do not close, a hand beside", Made.kinds().differ(63, 9), -3);
        RailCargo x = Made.cargo(10);
        x.cargo(10, 0);
        x.sale(0, 1, 2, 3, 1);
        x.sale(0, 110, 2, 5, 1);
        x.sale(0, 10, 2, 9, 1);
        Due.is("of unlike cargoes", x.differ(3, 0), BAD);
        Due.is("it pays more", x.differ(5, 0), -12);
        Due.is("it gets more", x.differ(5, 1), 12);
    }

    private static void found() {
        Made.refused("cargo", BAD, (x, n) -> x.found(n), -1, 1, 4, MIN, MAX);
        Due.is("none closes", Made.kinds().found(0), -1);
        Due.is("no sales", Made.cargo(1).found(0), -1);
        RailCargo x = Made.kinds();
        x.sale(0, 10, 1, 1, 1);
        Due.is("one does", x.found(0), 1 | 1 << 6);
    }

    private static void addFailing(List<Edge> all) {
        all.add(new Edge("Promise 19", "NO: none such, alike.", EdgesOfCalls::loses)
            .broken("if (hands < 0 || !isHand(failing) || failing == other || !isHour(hour)) {",
                    "if (hands < 0 || !isHand(failing) || !isHour(hour)) {")
            .broken("if (hands < 0 || !isHand(failing) || failing == other || !isHour(hour)) {",
                    "if (hands < 0 || failing == other || !isHour(hour)) {")
            .broken("if (hands < 0 || !isHand(failing) || failing == other || !isHour(hour)) {",
                    "if (!isHand(failing) || failing == other || !isHour(hour)) {")
            .broken("if (hands < 0 || !isHand(failing) || failing == other || !isHour(hour)) {",
                    "if (hands < 0 || !isHand(failing) || failing == other) {"));
        all.add(new Edge("Promise 20", "STOPS (bits). BAD.", EdgesOfCalls::stops)
            .broken("public int stops(int hand, int hour) { if (!isHand(hand) || !isHour(hour)) {",
                    "public int stops(int hand, int hour) { if (!isHand(hand)) {")
            .broken("public int stops(int hand, int hour) { if (!isHand(hand) || !isHour(hour)) {",
                    "public int stops(int hand, int hour) { if (!isHour(hour)) {"));
        all.add(new Edge("Promise 21",
                "BAD: no such SALE, HAND, HOUR, HANDS alike; -13: it is of another KIND.", EdgesOfCalls::two)
            .broken("!isHand(otherHand) || oneHand == otherHand) {", "!isHand(otherHand)) {")
            .broken("!isHand(otherHand) || oneHand == otherHand) {", "oneHand == otherHand) {")
            .broken("if (sold == null || !isHand(oneHand) || !isHand(otherHand)",
                    "if (sold == null || !isHand(otherHand)")
            .broken("if (sold == null || !isHand(oneHand)", "if (!isHand(oneHand)")
            .broken("if (!isUnder(sold.kind, PAPER_KIND)) { return OTHER_SORT; }", "")
            .broken("if (sold == null || !isHand(oneHand)", "if (sold != null && !isUnder(sold.kind, PAPER_KIND))"
                    + " { return OTHER_SORT; } if (sold == null || !isHand(oneHand)"));
        all.add(new Edge("Promise 22", "HANGS (what 0), how much it would change (1). BAD; NONE.", EdgesOfCalls::hangs)
            .broken("if (goods == null || !isHour(hour) || (what != 0 && what != 1)) { return BAD; } keepRisk",
                    "if (goods == null || !isHour(hour) || what < 0) { return BAD; } keepRisk")
            .broken("if (goods == null || !isHour(hour) || (what != 0 && what != 1)) { return BAD; } keepRisk",
                    "if (goods == null || !isHour(hour) || what > 1) { return BAD; } keepRisk")
            .broken("if (goods == null || !isHour(hour) || (what != 0 && what != 1)) { return BAD; } keepRisk",
                    "if (goods == null || (what != 0 && what != 1)) { return BAD; } keepRisk")
            .broken("if (most == 0) { return NONE; }", "if (most == 0) { return what == 1 ? 0 : NONE; }"));
    }

    private static void loses() {
        Made.refused("hands", NO, (x, n) -> x.loses(n, 0), 0, 11, 55, 99, 100, 101, 110, -1, -10, -12, MIN, MAX);
        Made.refused("hour", NO, (x, n) -> x.loses(10, n), -1, 1000, MIN, MAX);
        RailCargo x = Made.kinds();
        x.sale(0, 98, 1, 5, 1);
        Due.is("hands 10", x.loses(10, 20), 1);
        Due.is("hands 1", x.loses(1, 20), 0);
        Due.is("hands 89", x.loses(89, 20), 5);
        Due.is("hands 98", x.loses(98, 20), 0);
    }

    private static void stops() {
        Made.refused("hand", BAD, (x, n) -> x.stops(n, 0), -1, 10, MIN, MAX);
        Made.refused("hour", BAD, (x, n) -> x.stops(1, n), -1, 1000, MIN, MAX);
        Due.is("none to that hand", Made.kinds().stops(9, 0), 0);
        Due.is("all six", Made.kinds().stops(1, 0), 63);
        Due.is("all whose thing has not passed", Made.kinds().stops(1, 20), 62);
        RailCargo full = Made.full();
        Due.is("all 24", full.stops(6, 0), (1 << 24) - 1);
    }

    private static void two() {
        int[] none = {-1, 6, 24, MIN, MAX};
        for (int sale : none) {
            Due.is("sale " + sale, Made.kinds().two(sale, 1000, 2000), BAD);
        }
        int[] pairs = {-1, -1000, 10000, 10999, MIN, MAX};
        for (int kind = 0; kind < 6; kind++) {
            for (int pair : pairs) {
                Due.is("one " + pair, Made.kinds().two(kind, pair, 1000), BAD);
                Due.is("other " + pair, Made.kinds().two(kind, 1000, pair), BAD);
            }
            Due.is("hands alike", Made.kinds().two(kind, 1000, 1999), BAD);
            Due.is("hands and hours alike", Made.kinds().two(kind, 0, 0), BAD);
            Due.is("kind " + kind, Made.kinds().two(kind, 1000, 2000), kind == 3 || kind == 5 ? 1 : -13);
        }
    }

    private static void hangs() {
        Made.refused("cargo", BAD, (x, n) -> x.hangs(n, 0, 0), -1, 1, 4, MIN, MAX);
        Made.refused("hour", BAD, (x, n) -> x.hangs(0, n, 0), -1, 1000, MIN, MAX);
        Made.refused("what", BAD, (x, n) -> x.hangs(0, 0, n), -1, 2, MIN, MAX);
        RailCargo x = Made.kinds();
        Due.is("none changes any", x.hangs(0, 999, 0), -1);
        Due.is("none changes any", x.hangs(0, 999, 1), -1);
        x.hour(0, 0, 999);
        Due.is("loaded", x.hangs(0, 999, 0), 0);
        Due.is("a rail, a paper and a string", x.hangs(0, 999, 1), 6);
        Due.is("the string half way", x.hangs(0, 998, 1), 2);
    }

    private static void addWords(List<Edge> all) {
        all.add(new Edge("Promise 23", "MOVES (kind, hand: 10 times the KIND, and the HAND). NO: none such.",
                EdgesOfCalls::moves)
            .broken("if (sold == null || as < 0 || !isKind(as / 10) || !isHour(hour)) {",
                    "if (sold == null || !isKind(as / 10) || !isHour(hour)) {")
            .broken("if (sold == null || as < 0 || !isKind(as / 10) || !isHour(hour)) {",
                    "if (sold == null || as < 0 || !isHour(hour)) {")
            .broken("if (sold == null || as < 0 || !isKind(as / 10) || !isHour(hour)) {",
                    "if (sold == null || as < 0 || !isKind(as / 10)) {")
            .broken("if (sold == null || as < 0 || !isKind(as / 10) || !isHour(hour)) {",
                    "if (as < 0 || !isKind(as / 10) || !isHour(hour)) {")
            .broken("sold.kind = as / 10;", "sold.kind = as / 9;")
            .broken("sold.kind = as / 10;", "sold.kind = as / 11;"));
        all.add(new Edge("Promise 24", "TELEGRAPH (bits). BAD.", EdgesOfCalls::telegraph)
            .broken("public int telegraph(int cargo, int hour) { Cargo goods = cargoAt(cargo);"
                    + " if (goods == null || !isHour(hour)) {",
                    "public int telegraph(int cargo, int hour) { Cargo goods = cargoAt(cargo); if (goods == null) {")
            .broken("public int telegraph(int cargo, int hour) { Cargo goods = cargoAt(cargo);"
                    + " if (goods == null || !isHour(hour)) {",
                    "public int telegraph(int cargo, int hour) { Cargo goods = cargoAt(cargo); if (!isHour(hour)) {"));
    }

    private static void moves() {
        Made.refused("sale", NO, (x, n) -> x.moves(n, 0, 0), -1, 6, 24, MIN, MAX);
        Made.refused("as", NO, (x, n) -> x.moves(0, n, 0), -1, -9, -10, 60, 69, 100, MIN, MAX);
        Made.refused("hour", NO, (x, n) -> x.moves(0, 0, n), -1, 1000, MIN, MAX);
        RailCargo x = Made.kinds();
        Due.is("as 0", x.moves(1, 0, 20), -1);
        Due.is("as 1", x.moves(1, 1, 20), 1);
        Due.is("as 9", x.moves(1, 9, 20), 0);
        Due.is("as 51", x.moves(0, 51, 999), -1);
        Due.is("as 59", x.moves(0, 59, 999), 0);
        movesByKind();
        RailCargo all = Made.cargo(999);
        all.sale(2, 1, 999, 1, 0);
        Due.is("the most", all.moves(0, 1, 0), 999);
        Due.is("the least", all.moves(0, 0, 0), -999);
    }

    /** Of the first and the last hand: a sale whose loss passes at hour 999, as if it were of each kind. */
    private static void movesByKind() {
        RailCargo x = Made.cargo(10);
        x.sale(0, 9, 10, 1, 999);
        x.sale(0, 9, 10, 1, 20);
        x.hour(0, 0, 30);
        x.hour(0, 1, 40);
        int[] passes = {20, 30, 40, 30, 40, 25};
        for (int kind = 0; kind < 6; kind++) {
            for (int hour = passes[kind] - 1; hour <= passes[kind]; hour++) {
                int at = hour < passes[kind] ? 0 : 10;
                Due.is("hand 0 as " + kind + " at " + hour, x.moves(1, 10 * kind, hour), hour < 20 ? 0 : 10 - at);
                Due.is("hand 9 as " + kind + " at " + hour, x.moves(1, 10 * kind + 9, hour), hour < 20 ? 0 : at - 10);
            }
        }
    }

    private static void telegraph() {
        Made.refused("cargo", BAD, (x, n) -> x.telegraph(n, 0), -1, 1, 4, MIN, MAX);
        Made.refused("hour", BAD, (x, n) -> x.telegraph(0, n), -1, 1000, MIN, MAX);
        Due.is("all six", Made.kinds().telegraph(0, 19), 63);
        Due.is("none is later", Made.kinds().telegraph(0, 20), 0);
        RailCargo all = Made.cargo(10);
        for (int sale = 0; sale < 24; sale++) {
            all.sale(0, 1, 1, 1, 999);
        }
        Due.is("all 24", all.telegraph(0, 998), (1 << 24) - 1);
        Due.is("none of 24", all.telegraph(0, 999), 0);
    }

    private static void addImages(List<Edge> all) {
        all.add(new Edge("Promise 25", "AN IMAGE is kept: how many SALES.", EdgesOfCalls::image)
            .broken("imageRule = rule; return saleCount;", "imageRule = rule; return cargoCount;")
            .broken("void keep() { keptPaper = paper; keptPaid = paid; }",
                    "void keep() { if (keptPaid == 0) { keptPaper = paper; keptPaid = paid; } }"));
        all.add(new Edge("Promise 26", "how many SALES. STATE: there is none.", EdgesOfCalls::back)
            .broken("if (!hasImage) { return STATE; }", "")
            .broken("if (!hasImage) { return STATE; }", "if (!hasImage) { return BAD; }")
            .broken("if (!hasImage) { return STATE; }", "if (imageSales == 0) { return STATE; }")
            .broken("rule = imageRule; return saleCount;", "rule = imageRule; hasImage = false; return saleCount;"));
        all.add(new Edge("Promise 27", "4 THE RULE, 5 SALES whose PAPER is handed on, 6 what was PAID in all. BAD.",
                EdgesOfCalls::count)
            .broken("case 6: return paidInAll(); default: return BAD;",
                    "case 6: return paidInAll(); default: return 0;")
            .broken("case 6: return paidInAll(); default: return BAD;",
                    "case 6: case 7: return paidInAll(); default: return BAD;")
            .broken("if (sales[i].paper != NONE) {", "if (sales[i].paper > 0) {")
            .broken("case 3: return reader.size;", "case 3: return reader.room();"));
    }

    private static void image() {
        RailCargo x = new RailCargo();
        Due.is("no sales", x.image(), 0);
        Due.is("24 sales", Made.full().image(), 24);
        RailCargo y = Made.kinds();
        Due.is("six sales", y.image(), 6);
        y.pay(0, 5);
        Due.is("another image", y.image(), 6);
        y.pay(0, 6);
        Due.is("another image", y.image(), 6);
        y.pay(0, 7);
        y.back();
        Due.is("as in the last one", y.told(0, 8), 11);
    }

    private static void back() {
        RailCargo x = new RailCargo();
        Due.is("there is none", x.back(), -3);
        x.cargo(10, 0);
        x.sale(0, 1, 1, 1, 1);
        Due.is("there is none still", x.back(), -3);
        RailCargo y = new RailCargo();
        y.image();
        Due.is("one of nothing", y.back(), 0);
        y.cargo(10, 0);
        y.sale(0, 1, 1, 1, 1);
        Due.is("a sale that came since", y.back(), 1);
        y.image();
        y.pay(0, 3);
        Due.is("back", y.back(), 1);
        y.pay(0, 4);
        Due.is("and back again", y.back(), 1);
        Due.is("as in the image", y.told(0, 8), 0);
    }

    private static void count() {
        Made.refused("what", BAD, (x, n) -> x.count(n), -1, 7, MIN, MAX);
        RailCargo full = Made.full();
        int[] most = {4, 24, 6, 160, 0, 0, 24 * 999999};
        for (int what = 0; what < most.length; what++) {
            Due.is("count " + what, full.count(what), most[what]);
        }
        full.paper(0, 0);
        full.paper(23, 999);
        Due.is("papers, one in the first hour", full.count(5), 2);
        full.paper(0, -1);
        Due.is("papers", full.count(5), 1);
        Due.is("the last text", full.force(5), 0);
        Due.is("the rule", full.count(4), 5);
    }
}
