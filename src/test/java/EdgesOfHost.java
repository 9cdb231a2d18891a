import java.util.List;

/** Boundary cases of the host: the third part of the terms, and promises 28 to 32. */
final class EdgesOfHost {
    private static final int BAD = -2, MIN = Made.MIN, MAX = Made.MAX;

    private EdgesOfHost() {
    }

    static void addTo(List<Edge> all) {
        addSheets(all);
        addCells(all);
        addCopies(all);
        addSales(all);
        addTaken(all);
    }

    private static void addSheets(List<Edge> all) {
        all.add(new Edge("Terms 3", "SHEETS 0 .. 3 are rows of numbers, or missing (as all are at first)",
                EdgesOfHost::sheets)
            .broken("SHEETS = 4;", "SHEETS = 3;")
            .broken("SHEETS = 4;", "SHEETS = 5;")
            .broken("return number >= 0 && number < SHEETS ?", "return number > 0 && number < SHEETS ?")
            .broken("return number >= 0 && number < SHEETS ?", "return number < SHEETS ?")
            .broken("int sort = MISSING;", "int sort = 0;"));
        all.add(new Edge("Terms 3", "of sort 0 bytes, 1 shorts, 2 ints", EdgesOfHost::sorts)
            .broken("SORTS = 3,", "SORTS = 2,")
            .broken("SORTS = 3,", "SORTS = 4,")
            .broken("BYTES = 0, SHORTS = 1;", "BYTES = 1, SHORTS = 0;"));
        all.add(new Edge("Promise 28", "A SHEET becomes a row of n of a sort, all 0", EdgesOfHost::allZero)
            .broken("Arrays.fill(items, 0);", "")
            .broken("Arrays.fill(items, 0);", "Arrays.fill(items, 0, size - 1 < 0 ? 0 : size - 1, 0);"));
        all.add(new Edge("Promise 28", "or missing (sort -1: n does not matter): 1", EdgesOfHost::missing)
            .broken("|| (sort != MISSING && n > SHEET_ROOM)) {", "|| n > SHEET_ROOM) {")
            .broken("if (sort != MISSING && n < 0) {", "if (n < 0) {")
            .broken("sort < MISSING ||", "sort < 0 ||")
            .broken("row.become(sort, sort == MISSING ? 0 : n); return 1;",
                    "row.become(sort, sort == MISSING ? 0 : n); return 0;"));
        all.add(new Edge("Promise 28", "BAD: no such SHEET, sort; n above 40; -14.", EdgesOfHost::sheetRefuses)
            .broken("SHEET_ROOM = 40", "SHEET_ROOM = 39")
            .broken("SHEET_ROOM = 40", "SHEET_ROOM = 41")
            .broken("if (row == null || sort < MISSING || sort >= SORTS ||",
                    "if (row == null || sort < MISSING || sort > SORTS ||")
            .broken("if (row == null || sort < MISSING || sort >= SORTS ||",
                    "if (row == null || sort < MISSING - 1 || sort >= SORTS ||")
            .broken("if (row == null || sort < MISSING || sort >= SORTS ||", "if (sort < MISSING || sort >= SORTS ||")
            .broken("return BELOW_ZERO;", "return BAD;")
            .broken("if (sort != MISSING && n < 0) {", "if (sort != MISSING && n <= 0) {"));
    }

    /** A row of so many of a sort, behind it a sale at that price can be read from items 0 to 4. */
    private static RailCargo row(int sort, int n) {
        RailCargo x = Made.cargo(10);
        x.sheet(0, sort, n);
        return x;
    }

    /** The items of a sheet of the class that is filled: told as prices of sales that are read from another sheet. */
    private static void holds(RailCargo x, int sheet, int sort, int from, int... want) {
        x.sheet(3, sort, 5);
        x.cell(3, 1, 1);
        x.cell(3, 2, 1);
        for (int i = 0; i < want.length; i++) {
            int sale = x.count(1);
            x.copy(sheet, from + i, 3, 3, 1);
            int came = x.sales(3, sort, 0, 1);
            Due.is("item " + (from + i) + " of sheet " + sheet, came == 1 ? x.told(sale, 5) : -1, want[i]);
        }
    }

    private static void sheets() {
        RailCargo x = new RailCargo();
        for (int sheet = 0; sheet < 4; sheet++) {
            Due.is("missing at first", x.cell(sheet, 0, 0), -11);
            Due.is("missing at first", x.copy(sheet, 0, sheet, 0, 0), -11);
            Due.is("missing at first", x.sales(sheet, 0, 0, 0), -11);
            Due.is("becomes one", x.sheet(sheet, 0, 1), 1);
            Due.is("there it is", x.cell(sheet, 0, 0), 1);
        }
        int[] none = {-1, 4, 5, MIN, MAX};
        for (int sheet : none) {
            Due.is("sheet " + sheet, x.sheet(sheet, 0, 1), BAD);
            Due.is("cell of " + sheet, x.cell(sheet, 0, 0), BAD);
            Due.is("copy from " + sheet, x.copy(sheet, 0, 0, 0, 0), BAD);
            Due.is("copy to " + sheet, x.copy(0, 0, sheet, 0, 0), BAD);
            Due.is("sales of " + sheet, x.sales(sheet, 0, 0, 0), BAD);
        }
    }

    private static void sorts() {
        int[] values = {200, 40000, 127, 32767};
        int[][] want = {{-1, 64, 127, -1}, {200, -1, 127, 999}, {200, -1, 127, -1}};
        for (int sort = 0; sort < 3; sort++) {
            RailCargo x = row(sort, 4);
            for (int i = 0; i < 4; i++) {
                Due.is("of sort " + sort, x.cell(0, i, i == 3 && sort == 1 ? 65536 + 999 : values[i]), 1);
            }
            holds(x, 0, sort, 0, want[sort]);
        }
        Made.refused("sort", BAD, (x, sort) -> x.sheet(0, sort, 1), -2, 3, MIN, MAX);
        Made.refused("sort of sales", BAD, (x, sort) -> x.sales(0, sort, 0, 0), -1, 3, MIN, MAX);
    }

    private static void allZero() {
        for (int sort = 0; sort < 3; sort++) {
            RailCargo x = row(sort, 40);
            holds(x, 0, sort, 0, 0, 0);
            for (int i = 0; i < 40; i++) {
                x.cell(0, i, 100);
            }
            holds(x, 0, sort, 38, 100, 100);
            x.sheet(0, sort, 20);
            holds(x, 0, sort, 0, 0);
            holds(x, 0, sort, 19, 0);
            x.sheet(0, sort, 40);
            holds(x, 0, sort, 19, 0, 0);
            holds(x, 0, sort, 39, 0);
            x.cell(0, 39, 7);
            x.sheet(0, -1, 0);
            x.sheet(0, sort, 40);
            holds(x, 0, sort, 39, 0);
        }
    }

    private static void missing() {
        int[] sizes = {0, 1, 40, 41, -1, MIN, MAX};
        for (int n : sizes) {
            RailCargo x = row(0, 5);
            Due.is("missing with n " + n, x.sheet(0, -1, n), 1);
            Due.is("nothing is there", x.cell(0, 0, 0), -11);
            Due.is("missing once more", x.sheet(0, -1, n), 1);
            Due.is("missing, no such sheet", x.sheet(4, -1, n), BAD);
        }
    }

    private static void sheetRefuses() {
        for (int sort = 0; sort < 3; sort++) {
            RailCargo x = new RailCargo();
            Due.is("none of it", x.sheet(0, sort, 0), 1);
            Due.is("nothing in it", x.cell(0, 0, 0), -12);
            Due.is("40", x.sheet(0, sort, 40), 1);
            Due.is("the last", x.cell(0, 39, 0), 1);
            int[] above = {41, 1000, MAX};
            int[] below = {-1, -40, MIN};
            for (int n : above) {
                Due.is("n " + n, x.sheet(0, sort, n), BAD);
            }
            for (int n : below) {
                Due.is("n " + n, x.sheet(0, sort, n), -14);
                Due.is("no such sheet, n " + n, x.sheet(4, sort, n), BAD);
                Due.is("no such sheet, n " + n, x.sheet(-1, sort, n), BAD);
                Due.is("no such sort, n " + n, x.sheet(0, 3, n), BAD);
                Due.is("no such sort, n " + n, x.sheet(0, -2, n), BAD);
            }
            Due.is("it is as it was", x.cell(0, 39, 0), 1);
        }
        Made.refused("sheet", BAD, (x, sheet) -> x.sheet(sheet, 0, 0), -1, 4, MIN, MAX);
        Made.refused("sort", BAD, (x, sort) -> x.sheet(0, sort, 0), -2, 3, MIN, MAX);
    }

    private static void addCells(List<Edge> all) {
        all.add(new Edge("Promise 29", "becomes v (of bytes, shorts its lowest 8, 16 bits): 1", EdgesOfHost::lowestBits)
            .broken("items[i] = sort == BYTES ? (byte) value :", "items[i] = sort == BYTES ? Math.min(127, value) :")
            .broken("items[i] = sort == BYTES ? (byte) value :", "items[i] = sort == BYTES ? (short) value :")
            .broken("sort == SHORTS ? (short) value :", "sort == SHORTS ? Math.min(32767, value) :")
            .broken("sort == SHORTS ? (short) value :", "sort == SHORTS ? (byte) value :")
            .broken("sort == SHORTS ? (short) value : value;", "sort == SHORTS ? (short) value : (short) value;"));
        all.add(new Edge("Promise 29", "BAD: no such SHEET; -11; -12.", EdgesOfHost::cellRefuses)
            .broken("if (i < 0 || i >= row.size) {", "if (i < 0 || i > row.size) {")
            .broken("if (i < 0 || i >= row.size) {", "if (i <= 0 || i >= row.size) {")
            .broken("if (i < 0 || i >= row.size) {", "if (i < 0 || i >= SHEET_ROOM) {")
            .broken("if (i < 0 || i >= row.size) {", "if (i >= row.size) {")
            .broken("if (row.sort == MISSING) { return NOTHING; } if (i < 0", "if (i < 0")
            .broken("if (row == null) { return BAD; } if (row.sort",
                    "if (row == null) { return OUTSIDE; } if (row.sort"));
    }

    private static void lowestBits() {
        int[] values = {127, 128, 255, 256, 256 + 127, 65536 + 9, MAX, MIN, -1, 32767, 32768, 65536 + 256 + 3};
        int[] bytes = {127, -1, -1, 0, 127, 9, -1, 0, -1, -1, 0, 3};
        int[] shorts = {127, 128, 255, 256, 383, 9, -1, 0, -1, -1, -1, 259};
        int[] ints = {127, 128, 255, 256, 383, -1, -1, -1, -1, -1, -1, -1};
        int[][] want = {bytes, shorts, ints};
        for (int sort = 0; sort < 3; sort++) {
            RailCargo x = row(sort, values.length);
            for (int i = 0; i < values.length; i++) {
                Due.is("cell with " + values[i], x.cell(0, i, values[i]), 1);
            }
            holds(x, 0, sort, 0, want[sort]);
        }
    }

    private static void cellRefuses() {
        int[] none = {-1, 4, MIN, MAX};
        for (int sheet : none) {
            Due.is("sheet " + sheet, row(0, 5).cell(sheet, 0, 1), BAD);
            Due.is("sheet " + sheet + ", a place outside", row(0, 5).cell(sheet, -1, 1), BAD);
        }
        int[] sizes = {0, 1, 5, 40};
        for (int size : sizes) {
            RailCargo x = row(2, size);
            int[] outside = {-1, size, size + 1, 40, MIN, MAX};
            for (int i : outside) {
                Due.is("place " + i + " of " + size, x.cell(0, i, 1), -12);
                Due.is("place " + i + " of nothing", x.cell(1, i, 1), -11);
            }
            if (size > 0) {
                Due.is("the first of " + size, x.cell(0, 0, 1), 1);
                Due.is("the last of " + size, x.cell(0, size - 1, 1), 1);
            }
        }
    }

    private static void addCopies(List<Edge> all) {
        all.add(new Edge("Promise 30", "come to another one's item j on (as they were): n", EdgesOfHost::asTheyWere)
            .broken("System.arraycopy(from.items, i, to.items, j, n);",
                    "for (int k = 0; k < n; k++) { to.items[j + k] = from.items[i + k]; }")
            .broken("System.arraycopy(from.items, i, to.items, j, n);",
                    "for (int k = n - 1; k >= 0; k--) { to.items[j + k] = from.items[i + k]; }")
            .broken("to.items, j, n); return n;", "to.items, j, n); return 1;"));
        all.add(new Edge("Promise 30",
                "BAD: no such SHEET; -11; -13: they are of unlike sorts; -12 (also with n below 0).",
                EdgesOfHost::copyRefuses)
            .broken("return n >= 0 && i >= 0 && i <= size - n;", "return i >= 0 && i <= size - n;")
            .broken("return n >= 0 && i >= 0 && i <= size - n;", "return n >= 0 && i <= size - n;")
            .broken("return n >= 0 && i >= 0 && i <= size - n;", "return n >= 0 && i >= 0 && i < size - n;")
            .broken("return n >= 0 && i >= 0 && i <= size - n;", "return n >= 0 && i >= 0 && i + n <= size;")
            .broken("return n >= 0 && i >= 0 && i <= size - n;", "return n >= 0 && i >= 0 && i <= size - n + 1;")
            .broken("return n >= 0 && i >= 0 && i <= size - n;", "return n >= 0 && i >= 0 && i <= SHEET_ROOM - n;")
            .broken("if (from.sort == MISSING || to.sort == MISSING) {", "if (from.sort == MISSING) {")
            .broken("if (from.sort == MISSING || to.sort == MISSING) {", "if (to.sort == MISSING) {")
            .broken("if (!from.has(i, n) || !to.has(j, n)) {", "if (!from.has(i, n)) {")
            .broken("if (!from.has(i, n) || !to.has(j, n)) {", "if (!to.has(j, n)) {")
            .broken("if (from.sort != to.sort) { return OTHER_SORT; }", "")
            .broken("if (from == null || to == null) {", "if (from == null) {"));
    }

    private static RailCargo counted(int sort) {
        RailCargo x = row(sort, 5);
        x.sheet(1, sort, 5);
        for (int i = 0; i < 5; i++) {
            x.cell(0, i, 10 + i);
        }
        return x;
    }

    private static void asTheyWere() {
        for (int sort = 0; sort < 3; sort++) {
            RailCargo x = counted(sort);
            Due.is("to another", x.copy(0, 0, 1, 0, 5), 5);
            holds(x, 1, sort, 0, 10, 11, 12, 13, 14);
            x = counted(sort);
            Due.is("over itself, forward", x.copy(0, 0, 0, 1, 4), 4);
            holds(x, 0, sort, 0, 10, 10, 11, 12, 13);
            x = counted(sort);
            Due.is("over itself, backward", x.copy(0, 1, 0, 0, 4), 4);
            holds(x, 0, sort, 0, 11, 12, 13, 14, 14);
            x = counted(sort);
            Due.is("onto itself", x.copy(0, 0, 0, 0, 5), 5);
            holds(x, 0, sort, 0, 10, 11, 12, 13, 14);
            Due.is("none", x.copy(0, 0, 1, 0, 0), 0);
            Due.is("none, at the ends", x.copy(0, 5, 1, 5, 0), 0);
            Due.is("the last alone", x.copy(0, 4, 1, 4, 1), 1);
            holds(x, 1, sort, 0, 0, 0, 0, 0, 14);
        }
    }

    private static void copyRefuses() {
        RailCargo x = row(2, 5);
        x.sheet(1, 2, 3);
        x.sheet(2, 1, 5);
        int[] none = {-1, 4, MIN, MAX};
        for (int sheet : none) {
            Due.is("from sheet " + sheet, x.copy(sheet, 0, 0, 0, 1), BAD);
            Due.is("to sheet " + sheet, x.copy(0, 0, sheet, 0, 1), BAD);
            Due.is("from nothing to sheet " + sheet, x.copy(3, 9, sheet, 9, -1), BAD);
        }
        Due.is("from nothing", x.copy(3, 9, 0, 9, -1), -11);
        Due.is("to nothing", x.copy(0, 9, 3, 9, -1), -11);
        Due.is("from nothing to nothing", x.copy(3, 0, 3, 0, 0), -11);
        Due.is("unlike sorts", x.copy(0, 0, 2, 0, 1), -13);
        Due.is("unlike sorts, none", x.copy(2, 0, 0, 0, 0), -13);
        Due.is("unlike sorts, outside", x.copy(0, 9, 2, 9, -1), -13);
        int[][] outside = {{0, 0, -1}, {0, 0, MIN}, {1, 1, -1}, {5, 3, -1}, {-1, 0, 1}, {0, -1, 1}, {-1, 0, 0},
            {0, -1, 0}, {MIN, 0, 1}, {0, MIN, 1}, {0, 0, 4}, {0, 0, 6}, {2, 0, 4}, {0, 1, 3}, {5, 0, 1}, {0, 3, 1},
            {6, 0, 0}, {0, 4, 0}, {MAX, 0, 1}, {0, MAX, 1}, {0, 0, MAX}, {1, 1, MAX}, {MAX, MAX, MAX}, {3, 0, 3}};
        for (int[] o : outside) {
            Due.is("copy " + java.util.Arrays.toString(o), x.copy(0, o[0], 1, o[1], o[2]), -12);
        }
        int[][] inside = {{0, 0, 3}, {2, 0, 3}, {4, 2, 1}, {5, 3, 0}, {0, 0, 0}};
        for (int[] o : inside) {
            Due.is("copy " + java.util.Arrays.toString(o), x.copy(0, o[0], 1, o[1], o[2]), o[2]);
        }
    }

    private static void addSales(List<Edge> all) {
        all.add(new Edge("Promise 31", "from one on, five by five (as of sale()), n of them (0 .. 8)",
                EdgesOfHost::upToEight)
            .broken("SALES_AT_ONCE = 8", "SALES_AT_ONCE = 7")
            .broken("SALES_AT_ONCE = 8", "SALES_AT_ONCE = 9")
            .broken("n < 0 || n > SALES_AT_ONCE", "n < 1 || n > SALES_AT_ONCE")
            .broken("n < 0 || n > SALES_AT_ONCE", "n < -1 || n > SALES_AT_ONCE")
            .broken("SALE_CELLS = 5", "SALE_CELLS = 6"));
        all.add(new Edge("Promise 31", "how many came (others are left out)", EdgesOfHost::leftOut)
            .broken("cells[at + 4]) >= 0) { came++; }", "cells[at + 4]) > 0) { came++; }")
            .broken("cells[at + 4]) >= 0) { came++; }", "cells[at + 4]) >= NONE) { } came++;")
            .broken("cells[at + 4]) >= 0) { came++; }", "cells[at + 4]) >= 0) { came++; } else { return came; }"));
        all.add(new Edge("Promise 31", "BAD: no such SHEET, sort, n; -13; -11; -12: what stood ahead came.",
                EdgesOfHost::salesRefuse)
            .broken("if (row == null || sort < 0 || sort >= SORTS ||",
                    "if (row == null || sort < MISSING || sort >= SORTS ||")
            .broken("if (row == null || sort < 0 || sort >= SORTS ||", "if (row == null || sort < 0 || sort > SORTS ||")
            .broken("if (row == null || sort < 0 || sort >= SORTS ||", "if (sort < 0 || sort >= SORTS ||")
            .broken("if (row.sort != sort) { return OTHER_SORT; }", "")
            .broken("if (row.sort == MISSING) { return NOTHING; } if (row.sort != sort)", "if (row.sort != sort)")
            .broken("if (!row.has(at, SALE_CELLS)) {", "if (!row.has(at, SALE_CELLS - 1)) {")
            .broken("if (!row.has(at, SALE_CELLS)) {", "if (!row.has(at, SALE_CELLS + 1)) {")
            .broken("if (!row.has(at, SALE_CELLS)) { return OUTSIDE;", "if (!row.has(at, SALE_CELLS)) { return came;")
            .broken("int at = from;",
                    "if (n > 0 && !row.has(from, n * SALE_CELLS)) { return OUTSIDE; } int at = from;"));
    }

    /** Eight rows of five, each a sale: the k-th at price k. */
    private static RailCargo eightRows(int sort) {
        RailCargo x = row(sort, 40);
        for (int k = 0; k < 8; k++) {
            x.cell(0, 5 * k + 1, 1);
            x.cell(0, 5 * k + 2, 1);
            x.cell(0, 5 * k + 3, k);
        }
        return x;
    }

    private static void upToEight() {
        for (int n = 0; n <= 8; n++) {
            RailCargo x = eightRows(n % 3);
            Due.is(n + " of them", x.sales(0, n % 3, 0, n), n);
            Due.is("so many sales", x.count(1), n);
            for (int k = 0; k < n; k++) {
                Due.is("price of " + k, x.told(k, 5), k);
            }
        }
        int[] none = {-1, 9, MIN, MAX};
        for (int n : none) {
            Due.is("n " + n, eightRows(0).sales(0, 0, 0, n), BAD);
        }
        RailCargo x = eightRows(2);
        Due.is("from the last one on", x.sales(0, 2, 35, 1), 1);
        Due.is("its price", x.told(0, 5), 7);
    }

    private static void leftOut() {
        RailCargo x = row(2, 40);
        int[] cells = {0, 1, 1, 1, 1, 6, 1, 1, 1, 1, 0, 101, 1, 1, 1, 0, 11, 1, 1, 1, 0, 1, 0, 1, 1, 0, 1, 1, 1000, 1,
            0, 1, 1, 1, 1000, 5, 98, 999, 999, 999};
        for (int i = 0; i < cells.length; i++) {
            x.cell(0, i, cells[i]);
        }
        Due.is("the first and the last", x.sales(0, 2, 0, 8), 2);
        Due.is("they came", x.count(1), 2);
        Due.is("the last", x.told(1, 4), 999);
        RailCargo full = eightRows(1);
        Due.is("8", full.sales(0, 1, 0, 8), 8);
        Due.is("16", full.sales(0, 1, 0, 8), 8);
        Due.is("21", full.sales(0, 1, 0, 5), 5);
        Due.is("no more than three have room", full.sales(0, 1, 0, 8), 3);
        Due.is("none has room", full.sales(0, 1, 0, 8), 0);
        Due.is("24", full.count(1), 24);
    }

    private static void salesRefuse() {
        int[] none = {-1, 4, MIN, MAX};
        for (int sheet : none) {
            Due.is("sheet " + sheet, eightRows(0).sales(sheet, 0, 0, 1), BAD);
        }
        int[] noSort = {-1, 3, MIN, MAX};
        for (int sort : noSort) {
            Due.is("sort " + sort, eightRows(0).sales(0, sort, 0, 1), BAD);
            Due.is("nothing, sort " + sort, eightRows(0).sales(1, sort, 0, 1), BAD);
        }
        for (int sort = 0; sort < 3; sort++) {
            Due.is("of another sort", eightRows(sort).sales(0, (sort + 1) % 3, 0, 1), -13);
            Due.is("of another sort, outside", eightRows(sort).sales(0, (sort + 2) % 3, -1, 1), -13);
            Due.is("of another sort, none", eightRows(sort).sales(0, (sort + 2) % 3, 0, 0), -13);
            Due.is("nothing", eightRows(sort).sales(1, sort, 0, 1), -11);
            Due.is("nothing, outside", eightRows(sort).sales(1, sort, 99, 1), -11);
            Due.is("nothing, none", eightRows(sort).sales(1, sort, 0, 0), -11);
        }
        int[][] ahead = {{-1, 1, 0}, {36, 1, 0}, {40, 1, 0}, {35, 2, 1}, {31, 2, 1}, {5, 8, 7}, {30, 8, 2}, {MIN, 8, 0},
            {MAX, 8, 0}, {MAX - 4, 8, 0}, {-5, 8, 0}};
        for (int[] a : ahead) {
            RailCargo x = eightRows(2);
            Due.is(a[1] + " from " + a[0], x.sales(0, 2, a[0], a[1]), -12);
            Due.is("what stood ahead", x.count(1), a[2]);
        }
    }

    private static void addTaken(List<Edge> all) {
        all.add(new Edge("Promise 32", "A SALE taken for one of KIND k (0 .. 5), or one under that one (also by others"
                + " between): its PRICE.", EdgesOfHost::taken)
            .broken("return isUnder(sold.kind, k) ? sold.price", "return sold.kind == k ? sold.price")
            .broken("return isUnder(sold.kind, k) ? sold.price",
                    "return sold.kind == k || UNDER[sold.kind] == k ? sold.price")
            .broken("return isUnder(sold.kind, k) ? sold.price", "return isUnder(k, sold.kind) ? sold.price")
            .broken("for (int i = 0; i < KINDS && isKind(at); i++) {", "for (int i = 0; i < 3 && isKind(at); i++) {"));
        all.add(new Edge("Promise 32", "BAD: k; -11: no such SALE; -13.", EdgesOfHost::takenRefuses)
            .broken("if (!isKind(k)) { return BAD; }", "")
            .broken("if (!isKind(k)) { return BAD; }", "if (k > STRING_KIND) { return BAD; }")
            .broken("if (!isKind(k)) { return BAD; }", "if (k < 0) { return BAD; }")
            .broken("if (!isKind(k)) { return BAD; } Sale sold = saleAt(sale);",
                    "Sale sold = saleAt(sale); if (!isKind(k)) { return sold == null ? NOTHING : BAD; }")
            .broken("if (sold == null) { return NOTHING; }", "if (sold == null) { return BAD; }")
            .broken("sold.price : OTHER_SORT;", "sold.price : NOTHING;"));
    }

    private static void taken() {
        RailCargo x = Made.cargo(10);
        for (int kind = 0; kind < 6; kind++) {
            x.sale(kind, 1, 1, kind == 5 ? 999 : kind, 1);
        }
        int[] price = {0, 1, 2, 3, 4, 999};
        String[] lines = {"0", "10", "20", "310", "420", "5310"};
        for (int kind = 0; kind < 6; kind++) {
            for (int k = 0; k < 6; k++) {
                int due = lines[kind].indexOf('0' + k) >= 0 ? price[kind] : -13;
                Due.is("kind " + kind + " taken for " + k, x.taken(kind, k), due);
            }
        }
    }

    private static void takenRefuses() {
        Made.refused("k", BAD, (x, k) -> x.taken(0, k), -1, 6, MIN, MAX);
        Made.refused("k, no such sale", BAD, (x, k) -> x.taken(-1, k), -1, 6, MIN, MAX);
        Made.refused("sale", -11, (x, sale) -> x.taken(sale, 0), -1, 6, 24, MIN, MAX);
        Made.refused("sale", -11, (x, sale) -> x.taken(sale, 5), -1, 6, 24, MIN, MAX);
        Due.is("of another kind", Made.kinds().taken(0, 5), -13);
        Due.is("of another kind", Made.kinds().taken(1, 2), -13);
        Due.is("no sales at all", new RailCargo().taken(0, 0), -11);
    }
}
