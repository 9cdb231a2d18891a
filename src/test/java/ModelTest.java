import java.util.Random;

/** Runs of calls by chance, always the same ones, on the class and on the model: all answers are alike. */
public final class ModelTest {
    private static final int RUNS = 400, CALLS = 512, METHODS = 31;
    private static final int[] ODD = {Integer.MIN_VALUE, Integer.MAX_VALUE, -1, -2, 1000, 999, 10, 0, 1 << 24, -1000};
    private static final String[] PIECES = {"late ", "cut ", "stop ", ";", ";", "(", ")", "not ", "-", "+", "*", "<",
        "=", " and ", " or ", "1", "20", "9999", "12345", "hour", "kind", "price", "amount", "paid", "due", "x", " ",
        "\n", "?"};

    private final Random chance;
    private final RailCargo x = new RailCargo();
    private final Model m = new Model();
    private final int hours;
    private final int amounts;
    private final int hands;
    private String call;

    private ModelTest(long seed) {
        chance = new Random(seed);
        int[] spans = {6, 40, 1000};
        hours = spans[chance.nextInt(3)];
        amounts = chance.nextInt(3) == 0 ? 999 : 3;
        hands = 2 + chance.nextInt(9);
    }

    public static void main(String[] args) {
        for (int run = 0; run < RUNS; run++) {
            new ModelTest(run).run(run);
        }
        Due.end("ModelTest");
    }

    private void run(int run) {
        for (int k = 0; k < CALLS; k++) {
            int which = k < 60 ? chance.nextInt(10) : chance.nextInt(METHODS);
            long[] answers = which < 10 ? changes(which) : asks(which);
            Due.is("run " + run + " call " + k + " " + call, answers[0], answers[1]);
        }
    }

    private int upTo(int n) {
        return chance.nextInt(120) == 0 ? ODD[chance.nextInt(ODD.length)] : chance.nextInt(n);
    }

    private int hour() {
        return upTo(hours);
    }

    private int hourOrNone() {
        return chance.nextInt(6) == 0 ? -1 : hour();
    }

    private int hand() {
        return upTo(hands);
    }

    private int cargoNumber() {
        return upTo(m.cargoes.size() + (chance.nextInt(20) == 0 ? 1 : 0) + (m.cargoes.isEmpty() ? 1 : 0));
    }

    private int saleNumber() {
        return upTo(m.sold.size() + (chance.nextInt(20) == 0 ? 1 : 0) + (m.sold.isEmpty() ? 1 : 0));
    }

    private int where() {
        return 100 * cargoNumber() + 10 * hand() + hand();
    }

    private String expression(int depth) {
        int kind = chance.nextInt(depth <= 0 ? 4 : 14);
        String[] names = {"kind", "hour", "price", "amount", "paid", "due"};
        if (kind < 2) return "" + chance.nextInt(60);
        if (kind < 4) return names[chance.nextInt(6)];
        if (kind == 4) return "(" + expression(depth - 1) + ")";
        if (kind == 5) return "not " + expression(depth - 1);
        if (kind == 6) return "-" + expression(depth - 1);
        String[] signs = {"+", "-", "*", "<", "=", " and ", " or "};
        return expression(depth - 1) + signs[kind - 7] + expression(depth - 1);
    }

    private String someText() {
        StringBuilder text = new StringBuilder();
        if (chance.nextInt(6) == 0) {
            for (int i = chance.nextInt(12); i >= 0; i--) text.append(PIECES[chance.nextInt(PIECES.length)]);
        } else {
            int depth = chance.nextInt(4);
            text.append("late " + expression(depth) + ";cut " + expression(depth) + ";stop " + expression(depth) + ";");
        }
        if (chance.nextInt(5) == 0) {
            text.insert(chance.nextInt(text.length() + 1), PIECES[chance.nextInt(PIECES.length)]);
        }
        if (chance.nextInt(8) == 0) text.setLength(chance.nextInt(text.length() + 1));
        return text.substring(0, Math.min(text.length(), 164));
    }

    private long[] feedAndRead() {
        String text = someText();
        call = "text [" + text + "]";
        for (int i = 0; i < text.length(); i += 8) {
            int n = Math.min(8, text.length() - i);
            long bytes = 0;
            for (int k = 0; k < n; k++) bytes |= (long) text.charAt(i + k) << 8 * k;
            Due.is("feed", x.feed(n, bytes), m.feed(n, bytes));
        }
        return chance.nextInt(12) == 0 ? new long[] {x.count(3), m.count(3)} : new long[] {x.text(), m.text()};
    }

    private int say(String name, int... args) {
        call = name + java.util.Arrays.toString(args);
        return args[0];
    }

    private long[] changes(int which) {
        int a, b, c, d, e;
        switch (which) {
            case 0: say("cargo", a = 1 + upTo(Math.max(amounts * 3, 8)), b = hand());
                return new long[] {x.cargo(a, b), m.cargo(a, b)};
            case 1: case 2: say("hour", a = cargoNumber(), b = upTo(3), c = hourOrNone());
                return new long[] {x.hour(a, b, c), m.hour(a, b, c)};
            case 3: case 4: say("sale", a = upTo(6), b = where(), c = 1 + upTo(amounts), d = upTo(20), e = hour());
                return new long[] {x.sale(a, b, c, d, e), m.sale(a, b, c, d, e)};
            case 5: say("paper", a = saleNumber(), b = hourOrNone());
                return new long[] {x.paper(a, b), m.paper(a, b)};
            case 6: say("pay", a = saleNumber(), b = chance.nextInt(9) == 0 ? upTo(1200000) : upTo(50));
                return new long[] {x.pay(a, b), m.pay(a, b)};
            case 7: return feedAndRead();
            case 8: say("force", a = upTo(m.texts.size() + 1));
                return new long[] {x.force(a), m.force(a)};
            default: return host();
        }
    }

    private long[] host() {
        int a, b, c, d, e;
        switch (chance.nextInt(6)) {
            case 0: say("sheet", a = upTo(4), b = upTo(5) - 1, c = upTo(42));
                return new long[] {x.sheet(a, b, c), m.sheet(a, b, c)};
            case 1: case 2: say("row", a = upTo(4), b = 5 * upTo(8));
                for (int k = 0; k < 5; k++) {
                    int v = new int[] {upTo(6), where(), 1 + upTo(amounts), upTo(300), hour()}[k];
                    Due.is("cell", x.cell(a, b + k, v), m.cell(a, b + k, v));
                }
                return new long[] {x.cell(a, b, 0), m.cell(a, b, 0)};
            case 3: say("copy", a = upTo(4), b = upTo(40), c = upTo(4), d = upTo(40), e = upTo(20) - 1);
                return new long[] {x.copy(a, b, c, d, e), m.copy(a, b, c, d, e)};
            case 4: say("sales", a = upTo(4), b = chance.nextInt(4) == 0 ? upTo(3) : m.sorts[a & 3], c = upTo(12),
                    d = upTo(4));
                return new long[] {x.sales(a, b, c, d), m.sales(a, b, c, d)};
            default: say("taken", a = saleNumber(), b = upTo(6));
                return new long[] {x.taken(a, b), m.taken(a, b)};
        }
    }

    private int someSales() {
        if (chance.nextInt(3) == 0) return Math.max(0, m.found(cargoNumber()));
        int bits = 0;
        int cargo = cargoNumber();
        for (int i = 0; i < m.sold.size(); i++) {
            if (m.sold.get(i).cargo == cargo && chance.nextInt(2) == 0) bits |= 1 << i;
        }
        return chance.nextInt(20) == 0 ? bits | upTo(1 << 25) : bits;
    }

    private long[] asks(int which) {
        int a, b, c, d;
        switch (which) {
            case 10: case 11: say("told", a = saleNumber(), b = upTo(11));
                return new long[] {x.told(a, b), m.told(a, b)};
            case 12: case 13: say("whose", a = cargoNumber(), b = hand(), c = hour(), d = upTo(2));
                return new long[] {x.whose(a, b, c, d), m.whose(a, b, c, d)};
            case 14: say("falls", a = cargoNumber(), b = hand(), c = 1000 * hour() + upTo(8), d = upTo(2));
                return new long[] {x.falls(a, b, c, d), m.falls(a, b, c, d)};
            case 15: c = hour();
                say("between", a = cargoNumber(), b = hand(), c = 1000 * c + c + upTo(30), d = upTo(2));
                return new long[] {x.between(a, b, c, d), m.between(a, b, c, d)};
            case 16: say("owes", a = saleNumber(), b = hour());
                return new long[] {x.owes(a, b), m.owes(a, b)};
            case 17: say("balance", a = hand(), b = hour());
                return new long[] {x.balance(a, b), m.balance(a, b)};
            case 18: say("closes", a = someSales());
                return new long[] {x.closes(a), m.closes(a)};
            case 19: say("differ", a = someSales(), b = hand());
                return new long[] {x.differ(a, b), m.differ(a, b)};
            case 20: say("found", a = cargoNumber());
                return new long[] {x.found(a), m.found(a)};
            case 21: say("loses", a = 10 * hand() + hand(), b = hour());
                return new long[] {x.loses(a, b), m.loses(a, b)};
            case 22: say("stops", a = hand(), b = hour());
                return new long[] {x.stops(a, b), m.stops(a, b)};
            case 23: say("two", a = saleNumber(), b = 1000 * hand() + upTo(9), c = 1000 * hand() + upTo(9));
                return new long[] {x.two(a, b, c), m.two(a, b, c)};
            case 24: say("hangs", a = cargoNumber(), b = hour(), c = upTo(2));
                return new long[] {x.hangs(a, b, c), m.hangs(a, b, c)};
            case 25: say("moves", a = saleNumber(), b = 10 * upTo(6) + hand(), c = hour());
                return new long[] {x.moves(a, b, c), m.moves(a, b, c)};
            case 26: say("telegraph", a = cargoNumber(), b = hour());
                return new long[] {x.telegraph(a, b), m.telegraph(a, b)};
            case 27: say("image", 0);
                return chance.nextInt(4) == 0 ? new long[] {x.image(), m.image()} : new long[] {0, 0};
            case 28: say("back", 0);
                return chance.nextInt(4) == 0 ? new long[] {x.back(), m.back()} : new long[] {0, 0};
            default: say("count", a = upTo(7));
                return new long[] {x.count(a), m.count(a)};
        }
    }
}
