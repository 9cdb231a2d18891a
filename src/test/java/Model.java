import java.util.ArrayList;
import java.util.HashMap;
import java.util.List;
import java.util.Map;
import java.util.TreeSet;

/** The document once more, as plainly as can be, by other ways than the class goes: hour by hour, set by set. */
final class Model {
    static final long NO = -4611686018427387904L;
    private static final String FIRST_RULE = "late 0 < hour - 50 ; cut 0 ; stop hour < 20 ;";

    static final class Sold {
        int kind, cargo, seller, buyer, amount, price, hour, paper = -1, paid;
    }

    static final class Fault extends RuntimeException {
        final int place;

        Fault(int place) {
            this.place = place;
        }
    }

    final List<int[]> cargoes = new ArrayList<>();
    final List<Sold> sold = new ArrayList<>();
    final List<String> texts = new ArrayList<>();
    final int[][] rows = new int[4][];
    final int[] sorts = {-1, -1, -1, -1};
    String tape = "";
    int rule = 0;
    Map<String, Integer> image = null;

    Model() {
        texts.add(FIRST_RULE);
    }

    private static boolean in(int v, int from, int to) {
        return v >= from && v <= to;
    }

    private boolean noCargo(int c) {
        return !in(c, 0, cargoes.size() - 1);
    }

    private boolean noSale(int s) {
        return !in(s, 0, sold.size() - 1);
    }

    int cargo(int amount, int hand) {
        if (!in(amount, 1, 999) || !in(hand, 0, 9)) return -2;
        if (cargoes.size() == 4) return -4;
        cargoes.add(new int[] {amount, hand, -1, -1, -1});
        return cargoes.size() - 1;
    }

    int hour(int cargo, int what, int hour) {
        if (noCargo(cargo) || !in(what, 0, 2) || !in(hour, -1, 999)) return -2;
        int was = cargoes.get(cargo)[2 + what];
        cargoes.get(cargo)[2 + what] = hour;
        return was;
    }

    int sale(int kind, int where, int amount, int price, int hour) {
        if (!in(kind, 0, 5) || !in(where, 0, cargoes.size() * 100 - 1) || where / 10 % 10 == where % 10) return -2;
        if (!in(amount, 1, 999) || !in(price, 0, 999) || !in(hour, 0, 999)) return -2;
        if (sold.size() == 24) return -4;
        Sold s = new Sold();
        s.kind = kind;
        s.cargo = where / 100;
        s.seller = where / 10 % 10;
        s.buyer = where % 10;
        s.amount = amount;
        s.price = price;
        s.hour = hour;
        sold.add(s);
        return sold.size() - 1;
    }

    int paper(int sale, int hour) {
        if (noSale(sale) || !in(hour, -1, 999)) return -2;
        int was = sold.get(sale).paper;
        sold.get(sale).paper = hour;
        return was;
    }

    int pay(int sale, int coin) {
        if (noSale(sale) || !in(coin, 0, 999999)) return -2;
        if ((long) sold.get(sale).paid + coin > 999999) return -4;
        return sold.get(sale).paid += coin;
    }

    private int thing(Sold s, int kind) {
        int[] c = cargoes.get(s.cargo);
        if (kind == 0) return s.hour;
        if (kind == 1) return c[2] < 0 ? 1000 : Math.max(c[2], s.hour);
        if (kind == 2) return c[3] < 0 ? 1000 : Math.max(c[3], s.hour);
        if (kind == 4) return c[4] < 0 ? 1000 : Math.max(c[4], thing(s, 2));
        return s.paper < 0 ? 1000 : Math.max(s.paper, s.hour);
    }

    private int loss(Sold s, int kind) {
        if (kind == 0) return thing(s, 0);
        if (kind == 1) return thing(s, 1);
        if (kind == 2) return thing(s, 2);
        if (kind == 3) return loss(s, 1);
        if (kind == 4) return thing(s, 2);
        int end = loss(s, 3);
        return end == 1000 ? 1000 : s.hour + (end - s.hour) / 2;
    }

    int told(int sale, int what) {
        if (noSale(sale) || !in(what, 0, 10)) return -5;
        Sold s = sold.get(sale);
        return new int[] {s.kind, s.cargo, s.seller, s.buyer, s.amount, s.price, s.hour, s.paper, s.paid,
            thing(s, s.kind), loss(s, s.kind)}[what];
    }

    private int[] held(int cargo, int hour, int what) {
        int[] h = new int[10];
        h[cargoes.get(cargo)[1]] = cargoes.get(cargo)[0];
        for (int t = 0; t <= hour; t++) {
            for (Sold s : sold) {
                if (s.cargo == cargo && (what == 0 ? thing(s, s.kind) : loss(s, s.kind)) == t) {
                    int n = Math.min(s.amount, h[s.seller]);
                    h[s.seller] -= n;
                    h[s.buyer] += n;
                }
            }
        }
        return h;
    }

    int whose(int cargo, int hand, int hour, int what) {
        if (noCargo(cargo) || !in(hand, 0, 9) || !in(hour, 0, 999) || !in(what, 0, 1)) return -2;
        return held(cargo, hour, what)[hand];
    }

    long falls(int cargo, int hand, int when, int part) {
        if (noCargo(cargo) || !in(hand, 0, 9) || !in(when, 0, 999999) || !in(part, 0, 1)) return NO;
        int lost = when % 1000;
        int amount = cargoes.get(cargo)[0];
        if (lost > amount) return NO;
        int above = lost * held(cargo, when / 1000, 1)[hand];
        for (int d = amount; d > 1; d--) {
            if (above % d == 0 && amount % d == 0) {
                above /= d;
                amount /= d;
            }
        }
        return part == 0 ? above : amount;
    }

    int between(int cargo, int hand, int hours, int what) {
        if (noCargo(cargo) || !in(hand, 0, 9) || !in(hours, 0, 999999) || !in(what, 0, 1)) return -2;
        if (hours / 1000 > hours % 1000) return -2;
        TreeSet<Integer> seen = new TreeSet<>();
        TreeSet<Integer> hoursOfChange = new TreeSet<>();
        hoursOfChange.add(hours / 1000);
        for (Sold s : sold) hoursOfChange.add(loss(s, s.kind));
        for (int t : hoursOfChange) {
            if (in(t, hours / 1000, hours % 1000)) seen.add(held(cargo, t, 1)[hand]);
        }
        return what == 0 ? seen.first() : seen.last();
    }

    int feed(int n, long bytes) {
        if (!in(n, 1, 8)) return -2;
        if (tape.length() + n > 160) return -4;
        for (int i = 0; i < n; i++) tape += (char) (bytes >> 8 * i & 255);
        return tape.length();
    }

    int text() {
        if (texts.size() == 6) return -4;
        String text = tape;
        tape = "";
        try {
            new Parse(text, new HashMap<>()).text();
        } catch (Fault f) {
            return -100 - f.place;
        }
        texts.add(text);
        return texts.size() - 1;
    }

    int force(int text) {
        if (!in(text, 0, texts.size() - 1)) return -2;
        int was = rule;
        rule = text;
        return was;
    }

    private int[] ruled(Sold s, int hour) {
        Map<String, Integer> names = new HashMap<>();
        names.put("kind", s.kind);
        names.put("hour", hour - s.hour);
        names.put("price", s.price);
        names.put("amount", s.amount);
        names.put("paid", s.paid);
        names.put("due", s.price * s.amount);
        return new Parse(texts.get(rule), names).text();
    }

    private long owed(Sold s, int hour) {
        if (hour < s.hour) return 0;
        int due = s.price * s.amount;
        int[] v = ruled(s, hour);
        int late = v[0] < 0 ? 0 : v[0] > 9999 ? 9999 : v[0];
        int cut = v[1] < 0 ? 0 : v[1] > due ? due : v[1];
        return (long) due + late - cut - s.paid;
    }

    long owes(int sale, int hour) {
        return noSale(sale) || !in(hour, 0, 999) ? NO : owed(sold.get(sale), hour);
    }

    long balance(int hand, int hour) {
        if (!in(hand, 0, 9) || !in(hour, 0, 999)) return NO;
        long sum = 0;
        for (Sold s : sold) {
            if (s.seller == hand) sum += owed(s, hour);
            if (s.buyer == hand) sum -= owed(s, hour);
        }
        return sum;
    }

    private List<Sold> picked(int bits) {
        List<Sold> list = new ArrayList<>();
        for (int i = 0; i < 32; i++) {
            if ((bits >>> i & 1) == 0) continue;
            if (i >= sold.size()) return null;
            list.add(sold.get(i));
            if (sold.get(i).cargo != list.get(0).cargo) return null;
        }
        return list.isEmpty() ? null : list;
    }

    private static boolean ring(List<Sold> list) {
        boolean[][] way = new boolean[10][10];
        int[] more = new int[10];
        boolean[] is = new boolean[10];
        for (Sold s : list) {
            if (s.amount != list.get(0).amount) return false;
            more[s.seller]++;
            more[s.buyer]--;
            way[s.seller][s.buyer] = true;
            is[s.seller] = is[s.buyer] = true;
        }
        for (int k = 0; k < 10; k++)
            for (int a = 0; a < 10; a++)
                for (int b = 0; b < 10; b++) way[a][b] |= way[a][k] && way[k][b];
        for (int a = 0; a < 10; a++) {
            if (more[a] != 0) return false;
            for (int b = 0; b < 10; b++) if (a != b && is[a] && is[b] && !way[a][b]) return false;
        }
        return true;
    }

    int closes(int bits) {
        List<Sold> list = picked(bits);
        return list == null ? -2 : ring(list) ? 1 : 0;
    }

    long differ(int bits, int hand) {
        if (!in(hand, 0, 9)) return NO;
        List<Sold> list = picked(bits);
        if (list == null) return -2;
        if (!ring(list)) return -3;
        long sum = 0;
        for (Sold s : list) {
            if (s.seller == hand) sum += s.price * s.amount;
            if (s.buyer == hand) sum -= s.price * s.amount;
        }
        return sum;
    }

    int found(int cargo) {
        if (noCargo(cargo)) return -2;
        int best = -1;
        for (int bits = 1; bits < 1 << Math.min(12, sold.size()); bits++) {
            if (best > 0 && Integer.bitCount(bits) >= Integer.bitCount(best)) continue;
            List<Sold> list = picked(bits);
            if (list != null && list.get(0).cargo == cargo && ring(list)) best = bits;
        }
        return best;
    }

    long loses(int hands, int hour) {
        if (!in(hands, 0, 99) || hands / 10 == hands % 10 || !in(hour, 0, 999)) return NO;
        long sum = 0;
        for (Sold s : sold) {
            if (s.buyer == hands / 10 && s.seller == hands % 10 && thing(s, s.kind) <= hour && owed(s, hour) > 0) {
                sum += owed(s, hour);
            }
        }
        return sum;
    }

    int stops(int hand, int hour) {
        if (!in(hand, 0, 9) || !in(hour, 0, 999)) return -2;
        int bits = 0;
        for (int i = 0; i < sold.size(); i++) {
            Sold s = sold.get(i);
            boolean handedOn = s.paper >= 0 && s.paper <= hour;
            if (s.buyer == hand && thing(s, s.kind) > hour && ruled(s, hour)[2] != 0 && !handedOn) bits |= 1 << i;
        }
        return bits;
    }

    int two(int sale, int one, int other) {
        if (noSale(sale) || !in(one, 0, 9999) || !in(other, 0, 9999) || one / 1000 == other / 1000) return -2;
        if (sold.get(sale).kind != 3 && sold.get(sale).kind != 5) return -13;
        int byOne = one % 1000 * 10 + one / 1000;
        int byOther = other % 1000 * 10 + other / 1000;
        return Math.min(byOne, byOther) % 10;
    }

    private static int apart(int[] one, int[] other) {
        int sum = 0;
        for (int i = 0; i < 10; i++) sum += Math.abs(one[i] - other[i]);
        return sum;
    }

    int hangs(int cargo, int hour, int what) {
        if (noCargo(cargo) || !in(hour, 0, 999) || !in(what, 0, 1)) return -2;
        int[] now = held(cargo, hour, 1);
        int which = -1;
        int most = 0;
        for (int k = 0; k < 3; k++) {
            int was = cargoes.get(cargo)[2 + k];
            cargoes.get(cargo)[2 + k] = -1;
            int change = apart(now, held(cargo, hour, 1));
            cargoes.get(cargo)[2 + k] = was;
            if (change > most) {
                which = k;
                most = change;
            }
        }
        for (int k = 0; k < sold.size(); k++) {
            if (sold.get(k).cargo != cargo) continue;
            int was = sold.get(k).paper;
            sold.get(k).paper = -1;
            int change = apart(now, held(cargo, hour, 1));
            sold.get(k).paper = was;
            if (change > most) {
                which = 10 + k;
                most = change;
            }
        }
        return which < 0 ? -1 : what == 0 ? which : most;
    }

    long moves(int sale, int as, int hour) {
        if (noSale(sale) || !in(as, 0, 59) || !in(hour, 0, 999)) return NO;
        Sold s = sold.get(sale);
        int kind = s.kind;
        int before = held(s.cargo, hour, 1)[as % 10];
        s.kind = as / 10;
        int after = held(s.cargo, hour, 1)[as % 10];
        s.kind = kind;
        return after - before;
    }

    int telegraph(int cargo, int hour) {
        if (noCargo(cargo) || !in(hour, 0, 999)) return -2;
        int bits = 0;
        for (int i = 0; i < sold.size(); i++) {
            Sold s = sold.get(i);
            if (s.cargo == cargo && s.hour > hour && held(cargo, hour, 1)[s.seller] > 0) bits |= 1 << i;
        }
        return bits;
    }

    int image() {
        image = new HashMap<>();
        image.put("rule", rule);
        for (int c = 0; c < cargoes.size(); c++)
            for (int k = 2; k < 5; k++) image.put("cargo " + c + " " + k, cargoes.get(c)[k]);
        for (int s = 0; s < sold.size(); s++) {
            image.put("paper " + s, sold.get(s).paper);
            image.put("paid " + s, sold.get(s).paid);
        }
        return sold.size();
    }

    int back() {
        if (image == null) return -3;
        rule = image.get("rule");
        for (int c = 0; c < cargoes.size(); c++)
            for (int k = 2; k < 5; k++)
                cargoes.get(c)[k] = image.getOrDefault("cargo " + c + " " + k, cargoes.get(c)[k]);
        for (int s = 0; s < sold.size(); s++) {
            sold.get(s).paper = image.getOrDefault("paper " + s, sold.get(s).paper);
            sold.get(s).paid = image.getOrDefault("paid " + s, sold.get(s).paid);
        }
        return sold.size();
    }

    int count(int what) {
        int papers = 0;
        int paid = 0;
        for (Sold s : sold) {
            papers += s.paper >= 0 ? 1 : 0;
            paid += s.paid;
        }
        if (!in(what, 0, 6)) return -2;
        return new int[] {cargoes.size(), sold.size(), texts.size(), tape.length(), rule, papers, paid}[what];
    }

    int sheet(int sheet, int sort, int n) {
        if (!in(sheet, 0, 3) || !in(sort, -1, 2)) return -2;
        if (sort >= 0 && n > 40) return -2;
        if (sort >= 0 && n < 0) return -14;
        sorts[sheet] = sort;
        rows[sheet] = sort < 0 ? null : new int[n];
        return 1;
    }

    int cell(int sheet, int i, int v) {
        if (!in(sheet, 0, 3)) return -2;
        if (rows[sheet] == null) return -11;
        if (!in(i, 0, rows[sheet].length - 1)) return -12;
        rows[sheet][i] = sorts[sheet] == 0 ? v << 24 >> 24 : sorts[sheet] == 1 ? v << 16 >> 16 : v;
        return 1;
    }

    int copy(int sheet, int i, int other, int j, int n) {
        if (!in(sheet, 0, 3) || !in(other, 0, 3)) return -2;
        if (rows[sheet] == null || rows[other] == null) return -11;
        if (sorts[sheet] != sorts[other]) return -13;
        if (n < 0 || i < 0 || j < 0) return -12;
        if ((long) i + n > rows[sheet].length || (long) j + n > rows[other].length) return -12;
        int[] were = rows[sheet].clone();
        for (int k = 0; k < n; k++) rows[other][j + k] = were[i + k];
        return n;
    }

    int sales(int sheet, int sort, int from, int n) {
        if (!in(sheet, 0, 3) || !in(sort, 0, 2) || !in(n, 0, 8)) return -2;
        if (rows[sheet] == null) return -11;
        if (sorts[sheet] != sort) return -13;
        int came = 0;
        for (int k = 0; k < n; k++) {
            long at = from + 5L * k;
            if (at < 0 || at + 5 > rows[sheet].length) return -12;
            int[] r = rows[sheet];
            int a = (int) at;
            if (sale(r[a], r[a + 1], r[a + 2], r[a + 3], r[a + 4]) >= 0) came++;
        }
        return came;
    }

    int taken(int sale, int k) {
        if (!in(k, 0, 5)) return -2;
        if (noSale(sale)) return -11;
        String[] lines = {"0", "10", "20", "310", "420", "5310"};
        return lines[sold.get(sale).kind].contains("" + k) ? sold.get(sale).price : -13;
    }

    /** Reads and reckons at once, token by token as they come; a fault is thrown where it is found. */
    private static final class Parse {
        private final String s;
        private final Map<String, Integer> names;
        private int place;
        private String token;

        Parse(String s, Map<String, Integer> names) {
            this.s = s;
            this.names = names;
            token = "";
            place = 0;
            step();
        }

        private void step() {
            place += token.length();
            while (place < s.length() && " \n".indexOf(s.charAt(place)) >= 0) place++;
            int end = place;
            String sort = place < s.length() && in(s.charAt(place), 'a', 'z') ? "az"
                    : place < s.length() && in(s.charAt(place), '0', '9') ? "09" : null;
            if (sort == null) {
                token = place < s.length() ? s.substring(place, place + 1) : "";
                return;
            }
            while (end < s.length() && in(s.charAt(end), sort.charAt(0), sort.charAt(1))) end++;
            token = s.substring(place, end);
        }

        private void take(String want) {
            if (!token.equals(want)) throw new Fault(place);
            step();
        }

        int[] text() {
            int[] values = new int[3];
            String[] keys = {"late", "cut", "stop"};
            for (int i = 0; i < 3; i++) {
                take(keys[i]);
                values[i] = e(0);
                take(";");
            }
            if (!token.isEmpty()) throw new Fault(place);
            return values;
        }

        private int e(int open) {
            int v = and(open);
            while (token.equals("or")) {
                step();
                int w = and(open);
                v = v != 0 || w != 0 ? 1 : 0;
            }
            return v;
        }

        private int and(int open) {
            int v = not(open);
            while (token.equals("and")) {
                step();
                int w = not(open);
                v = v != 0 && w != 0 ? 1 : 0;
            }
            return v;
        }

        private int not(int open) {
            if (token.equals("not")) {
                if (open == 5) throw new Fault(place);
                step();
                return not(open + 1) == 0 ? 1 : 0;
            }
            int v = sum(open);
            if (token.equals("<")) {
                step();
                return v < sum(open) ? 1 : 0;
            }
            if (token.equals("=")) {
                step();
                return v == sum(open) ? 1 : 0;
            }
            return v;
        }

        private int sum(int open) {
            int v = term(open);
            while (token.equals("+") || token.equals("-")) {
                boolean plus = token.equals("+");
                step();
                int w = term(open);
                v = plus ? v + w : v - w;
            }
            return v;
        }

        private int term(int open) {
            int v = one(open);
            while (token.equals("*")) {
                step();
                v *= one(open);
            }
            return v;
        }

        private int one(int open) {
            int v;
            if (token.matches("[0-9]{1,4}")) {
                v = Integer.parseInt(token);
                step();
            } else if (token.matches("kind|hour|price|amount|paid|due")) {
                v = names.getOrDefault(token, 0);
                step();
            } else if ((token.equals("-") || token.equals("(")) && open < 5) {
                boolean minus = token.equals("-");
                step();
                v = minus ? -one(open + 1) : e(open + 1);
                if (!minus) take(")");
            } else {
                throw new Fault(place);
            }
            return v;
        }
    }
}
