/** Promises 28 to 32: sheet, cell, copy, sales, taken. */
public final class HostTest {
    private static final int MIN = Integer.MIN_VALUE, MAX = Integer.MAX_VALUE;

    public static void main(String[] args) {
        sheet();
        sheetIsAllZero();
        cell();
        cellKeepsLowestBits();
        copy();
        copyRefuses();
        sales();
        salesPlaces();
        salesRefuses();
        salesWhenFull();
        taken();
        Due.end("HostTest");
    }

    private static void sheet() {
        RailCargo x = new RailCargo();
        for (int sheet = 0; sheet < 4; sheet++) {
            for (int sort = 0; sort < 3; sort++) {
                Due.is("none", x.sheet(sheet, sort, 0), 1);
                Due.is("of none", x.cell(sheet, 0, 1), -12);
                Due.is("40", x.sheet(sheet, sort, 40), 1);
                Due.is("the last", x.cell(sheet, 39, 1), 1);
                Due.is("41", x.sheet(sheet, sort, 41), -2);
                Due.is("most", x.sheet(sheet, sort, MAX), -2);
                Due.is("below 0", x.sheet(sheet, sort, -1), -14);
                Due.is("below 0", x.sheet(sheet, sort, MIN), -14);
                Due.is("as it was", x.cell(sheet, 39, 1), 1);
            }
            int[] sizes = {0, 40, 41, -1, MIN, MAX};
            for (int n : sizes) {
                Due.is("missing", x.sheet(sheet, -1, n), 1);
                Due.is("nothing", x.cell(sheet, 0, 1), -11);
            }
        }
        int[][] bad = {{-1, 0, 1}, {4, 0, 1}, {MIN, 0, 1}, {MAX, 0, 1}, {0, 3, 1}, {0, -2, 1}, {0, MIN, 1},
            {0, MAX, 1}, {4, 0, -1}, {0, 3, -1}, {4, -1, 0}};
        for (int[] b : bad) {
            Due.is("sheet " + java.util.Arrays.toString(b), x.sheet(b[0], b[1], b[2]), -2);
        }
    }

    /** What a sheet of ints holds at i, told by a sale whose price it is. */
    private static int item(RailCargo x, int sheet, int sort, int i) {
        RailCargo y = x;
        int at = y.count(1);
        y.sheet(3, sort, 5);
        y.cell(3, 1, 1);
        y.cell(3, 2, 1);
        y.copy(sheet, i, 3, 3, 1);
        return y.sales(3, sort, 0, 1) == 1 ? y.told(at, 5) : -1;
    }

    private static void sheetIsAllZero() {
        RailCargo x = new RailCargo();
        x.cargo(1, 0);
        x.sheet(0, 2, 40);
        for (int i = 0; i < 40; i++) {
            x.cell(0, i, 100 + i);
        }
        Due.is("100", item(x, 0, 2, 0), 100);
        Due.is("139", item(x, 0, 2, 39), 139);
        x.sheet(0, 2, 40);
        Due.is("all 0", item(x, 0, 2, 0), 0);
        Due.is("all 0", item(x, 0, 2, 39), 0);
        x.cell(0, 7, 7);
        x.sheet(0, -1, 0);
        x.sheet(0, 1, 8);
        Due.is("all 0", item(x, 0, 1, 7), 0);
    }

    private static void cell() {
        RailCargo x = new RailCargo();
        x.sheet(1, 2, 7);
        Due.is("first", x.cell(1, 0, 5), 1);
        Due.is("last", x.cell(1, 6, 5), 1);
        int[] outside = {7, -1, 40, MIN, MAX};
        for (int i : outside) {
            Due.is("cell at " + i, x.cell(1, i, 5), -12);
            Due.is("nothing ahead of outside", x.cell(2, i, 5), -11);
        }
        int[] bad = {-1, 4, MIN, MAX};
        for (int sheet : bad) {
            Due.is("cell of " + sheet, x.cell(sheet, 99, 5), -2);
        }
    }

    private static void cellKeepsLowestBits() {
        RailCargo x = new RailCargo();
        x.cargo(1, 0);
        x.sheet(0, 0, 6);
        x.sheet(1, 1, 6);
        x.sheet(2, 2, 6);
        int[] values = {127, 256 + 5, 128, -1, 65536 + 300, MAX};
        int[] bytes = {127, 5, -1, -1, 44, -1};
        int[] shorts = {127, 261, 128, -1, 300, -1};
        int[] ints = {127, 261, 128, -1, -1, -1};
        for (int i = 0; i < 6; i++) {
            for (int sheet = 0; sheet < 3; sheet++) {
                Due.is("cell", x.cell(sheet, i, values[i]), 1);
            }
            Due.is("byte of " + values[i], item(x, 0, 0, i), bytes[i]);
            Due.is("short of " + values[i], item(x, 1, 1, i), shorts[i]);
            Due.is("int of " + values[i], item(x, 2, 2, i), ints[i]);
        }
    }

    private static void holds(RailCargo x, int sheet, int... want) {
        for (int i = 0; i < want.length; i++) {
            Due.is("item " + i + " of sheet " + sheet, item(x, sheet, 2, i), want[i]);
        }
    }

    private static void copy() {
        RailCargo x = new RailCargo();
        x.cargo(1, 0);
        x.sheet(0, 2, 6);
        x.sheet(1, 2, 4);
        for (int i = 0; i < 6; i++) {
            x.cell(0, i, 10 + i);
        }
        Due.is("to another", x.copy(0, 2, 1, 1, 3), 3);
        holds(x, 1, 0, 12, 13, 14);
        Due.is("over itself, forward", x.copy(0, 0, 0, 1, 5), 5);
        holds(x, 0, 10, 10, 11, 12, 13, 14);
        RailCargo y = new RailCargo();
        y.cargo(1, 0);
        y.sheet(0, 2, 6);
        for (int i = 0; i < 6; i++) {
            y.cell(0, i, 10 + i);
        }
        Due.is("over itself, backward", y.copy(0, 2, 0, 0, 4), 4);
        holds(y, 0, 12, 13, 14, 15, 14, 15);
        Due.is("none", y.copy(0, 0, 0, 3, 0), 0);
        Due.is("none at the end", y.copy(0, 6, 0, 6, 0), 0);
    }

    private static void copyRefuses() {
        RailCargo x = new RailCargo();
        x.sheet(0, 2, 6);
        x.sheet(1, 2, 4);
        x.sheet(2, 1, 4);
        int[] bad = {-1, 4, MIN, MAX};
        for (int sheet : bad) {
            Due.is("no such sheet", x.copy(sheet, 0, 1, 0, 1), -2);
            Due.is("no such sheet", x.copy(0, 0, sheet, 0, 1), -2);
            Due.is("BAD ahead of nothing", x.copy(3, 0, sheet, 0, 1), -2);
        }
        Due.is("nothing", x.copy(3, 0, 0, 0, 1), -11);
        Due.is("nothing", x.copy(0, 0, 3, 0, 1), -11);
        Due.is("nothing, to itself", x.copy(3, 0, 3, 0, 0), -11);
        Due.is("nothing ahead of outside", x.copy(3, -1, 0, 0, 99), -11);
        Due.is("unlike sorts", x.copy(0, 0, 2, 0, 1), -13);
        Due.is("unlike sorts ahead of outside", x.copy(0, -1, 2, 0, -1), -13);
        int[][] outside = {{-1, 0, 1}, {0, -1, 1}, {0, 0, -1}, {0, 0, 5}, {6, 0, 1}, {0, 4, 1}, {3, 0, 4}, {0, 1, 4},
            {7, 0, 0}, {0, 5, 0}, {MAX, 0, 1}, {0, MAX, 1}, {0, 0, MAX}, {MAX, MAX, MAX}, {MIN, 0, 1}, {0, MIN, 1},
            {0, 0, MIN}, {1, 1, MAX}};
        for (int[] o : outside) {
            Due.is("copy " + java.util.Arrays.toString(o), x.copy(0, o[0], 1, o[1], o[2]), -12);
        }
    }

    private static void fill(RailCargo x, int sheet, int... values) {
        for (int i = 0; i < values.length; i++) {
            x.cell(sheet, i, values[i]);
        }
    }

    private static void sales() {
        RailCargo x = new RailCargo();
        x.cargo(10, 0);
        x.sheet(0, 2, 40);
        fill(x, 0, 1, 12, 13, 14, 15, 6, 12, 13, 14, 15, 2, 23, 24, 25, 26, 3, 34, 35, 36, 37, 0, 55, 1, 1, 1);
        Due.is("three of five", x.sales(0, 2, 0, 5), 3);
        Due.is("they came", x.count(1), 3);
        int[][] want = {{1, 0, 1, 2, 13, 14, 15}, {2, 0, 2, 3, 24, 25, 26}, {3, 0, 3, 4, 35, 36, 37}};
        for (int sale = 0; sale < 3; sale++) {
            for (int what = 0; what < 7; what++) {
                Due.is("told " + sale + " " + what, x.told(sale, what), want[sale][what]);
            }
        }
        Due.is("rows of 0 are none", x.sales(0, 2, 25, 3), 0);
        Due.is("none asked", x.sales(0, 2, 0, 0), 0);
        Due.is("as before", x.count(1), 3);
    }

    private static void salesPlaces() {
        RailCargo x = new RailCargo();
        x.cargo(10, 0);
        x.sheet(0, 1, 11);
        fill(x, 0, 0, 1, 1, 1, 1, 0, 1, 2, 2, 2, 0);
        Due.is("a row that ends outside", x.sales(0, 1, 0, 3), -12);
        Due.is("what stood ahead came", x.count(1), 2);
        Due.is("just to the end", x.sales(0, 1, 0, 2), 2);
        Due.is("from 5", x.sales(0, 1, 5, 1), 1);
        Due.is("from 7", x.sales(0, 1, 7, 1), -12);
        int[] outside = {-1, -5, 11, 40, MIN, MAX, MAX - 4};
        for (int from : outside) {
            Due.is("from " + from, x.sales(0, 1, from, 2), -12);
            Due.is("none from " + from, x.sales(0, 1, from, 0), 0);
        }
        Due.is("five came", x.count(1), 5);
        x.sheet(0, 0, 40);
        Due.is("eight rows", x.sales(0, 0, 0, 8), 0);
        Due.is("eight rows from 1", x.sales(0, 0, 1, 8), -12);
    }

    private static void salesRefuses() {
        RailCargo x = new RailCargo();
        x.cargo(10, 0);
        x.sheet(0, 0, 20);
        int[][] bad = {{-1, 0, 0, 1}, {4, 0, 0, 1}, {MIN, 0, 0, 1}, {MAX, 0, 0, 1}, {0, -1, 0, 1}, {0, 3, 0, 1},
            {0, MIN, 0, 1}, {0, MAX, 0, 1}, {0, 0, 0, -1}, {0, 0, 0, 9}, {0, 0, 0, MIN}, {0, 0, 0, MAX},
            {1, 0, 0, 9}, {0, 1, 0, 9}, {1, -1, 0, 1}};
        for (int[] b : bad) {
            Due.is("sales " + java.util.Arrays.toString(b), x.sales(b[0], b[1], b[2], b[3]), -2);
        }
        Due.is("of another sort", x.sales(0, 1, 0, 1), -13);
        Due.is("of another sort", x.sales(0, 2, 0, 0), -13);
        Due.is("of another sort ahead of outside", x.sales(0, 2, 99, 1), -13);
        for (int sort = 0; sort < 3; sort++) {
            Due.is("nothing", x.sales(1, sort, 0, 0), -11);
            Due.is("nothing ahead of outside", x.sales(1, sort, 99, 1), -11);
        }
    }

    private static void salesWhenFull() {
        RailCargo x = new RailCargo();
        x.cargo(10, 0);
        x.sheet(0, 0, 40);
        for (int k = 0; k < 8; k++) {
            x.cell(0, 5 * k + 1, 1);
            x.cell(0, 5 * k + 2, 1);
        }
        Due.is("8", x.sales(0, 0, 0, 8), 8);
        Due.is("8", x.sales(0, 0, 0, 8), 8);
        Due.is("5", x.sales(0, 0, 0, 5), 5);
        Due.is("3 have room", x.sales(0, 0, 0, 8), 3);
        Due.is("none has", x.sales(0, 0, 0, 8), 0);
        Due.is("24", x.count(1), 24);
    }

    private static void taken() {
        RailCargo x = new RailCargo();
        x.cargo(10, 0);
        for (int kind = 0; kind < 6; kind++) {
            x.sale(kind, 1, 1, 100 + kind, 1);
        }
        String[] under = {"0", "01", "02", "013", "024", "0135"};
        for (int kind = 0; kind < 6; kind++) {
            for (int k = 0; k < 6; k++) {
                boolean is = under[kind].indexOf('0' + k) >= 0;
                Due.is("kind " + kind + " taken for " + k, x.taken(kind, k), is ? 100 + kind : -13);
            }
        }
        int[] none = {6, -1, MIN, MAX};
        for (int sale : none) {
            Due.is("no such sale", x.taken(sale, 0), -11);
        }
        for (int k : none) {
            Due.is("no such kind", x.taken(0, k), -2);
            Due.is("BAD ahead of nothing", x.taken(-1, k), -2);
        }
    }
}
