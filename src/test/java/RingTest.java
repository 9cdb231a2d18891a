/** Promises 16 to 18: closes, differ, found. */
public final class RingTest {
    private static final int MIN = Integer.MIN_VALUE, MAX = Integer.MAX_VALUE;
    private static final long NO = -4611686018427387904L;

    public static void main(String[] args) {
        closes();
        closesRefuses();
        closesTheGreatest();
        differ();
        found();
        foundOfTheFirstTwelve();
        foundOfALongRing();
        foundAmongMany();
        Due.end("RingTest");
    }

    private static void closes() {
        RailCargo x = new RailCargo();
        x.cargo(50, 0);
        int[] wheres = {1, 12, 20, 34, 43, 2, 21, 10, 1};
        for (int where : wheres) {
            x.sale(where % 6, where, 5, 10, 1);
        }
        x.sale(0, 10, 6, 10, 1);
        Due.is("0 1 2 0", x.closes(7), 1);
        Due.is("a way, no ring", x.closes(3), 0);
        Due.is("one sale", x.closes(1), 0);
        Due.is("3 4 3", x.closes(24), 1);
        Due.is("two rings that do not meet", x.closes(31), 0);
        Due.is("0 2 1 0", x.closes(1 << 5 | 1 << 6 | 1 << 7), 1);
        Due.is("both ways round", x.closes(7 | 1 << 5 | 1 << 6 | 1 << 7), 1);
        Due.is("there and back", x.closes(1 | 1 << 7), 1);
        Due.is("twice there, once back", x.closes(1 | 1 << 7 | 1 << 8), 0);
        Due.is("the other one of the like ones", x.closes(1 << 8 | 2 | 4), 1);
        Due.is("two rings that meet in a hand", x.closes(1 | 1 << 7 | 1 << 5 | 4), 1);
        Due.is("unlike amounts", x.closes(1 | 1 << 9), 0);
        Due.is("unlike amounts, one of them beside", x.closes(1 | 1 << 7 | 1 << 8 | 1 << 9), 0);
        Due.is("twice to the same", x.closes(1 | 1 << 8), 0);
    }

    private static void closesRefuses() {
        RailCargo x = new RailCargo();
        Due.is("no sales at all", x.closes(1), -2);
        Due.is("none", x.closes(0), -2);
        x.cargo(50, 0);
        x.cargo(50, 0);
        x.sale(0, 1, 5, 10, 1);
        x.sale(0, 110, 5, 10, 1);
        x.sale(0, 10, 5, 10, 1);
        int[] bad = {0, 3, 2 | 4, 7, 8, 1 | 8, MIN, MAX, -1, MIN | 5, 1 << 24, 1 << 30};
        for (int bits : bad) {
            Due.is("closes " + bits, x.closes(bits), -2);
            Due.is("differ " + bits, x.differ(bits, 0), -2);
            Due.is("NO ahead of BAD, " + bits, x.differ(bits, 10), NO);
        }
        Due.is("of one cargo", x.closes(5), 1);
        Due.is("one of the other", x.closes(2), 0);
    }

    private static void closesTheGreatest() {
        RailCargo x = new RailCargo();
        x.cargo(50, 0);
        for (int i = 0; i < 24; i++) {
            x.sale(0, i % 2 == 0 ? 89 : 98, 7, 3, 9);
        }
        Due.is("all 24", x.closes((1 << 24) - 1), 1);
        Due.is("the last two", x.closes(3 << 22), 1);
        Due.is("23", x.closes((1 << 23) - 1), 0);
        Due.is("none such", x.closes(1 << 24), -2);
        Due.is("differences of all", x.differ((1 << 24) - 1, 8), 0);
        RailCargo y = new RailCargo();
        y.cargo(50, 0);
        for (int i = 0; i < 10; i++) {
            y.sale(0, (9 - i) * 10 + (19 - i - 1) % 10, 7, i, 9);
        }
        Due.is("by all hands", y.closes(1023), 1);
        Due.is("all but one", y.closes(1022), 0);
        Due.is("difference of 9", y.differ(1023, 9), 0 * 7 - 9 * 7);
        Due.is("difference of 4", y.differ(1023, 4), 7);
    }

    private static void differ() {
        RailCargo x = new RailCargo();
        x.cargo(50, 0);
        x.sale(0, 1, 5, 10, 1);
        x.sale(0, 12, 5, 11, 2);
        x.sale(0, 20, 5, 12, 3);
        x.sale(0, 10, 5, 999, 3);
        x.pay(0, 30);
        Due.is("what was paid does not matter", x.differ(7, 0), -10);
        Due.is("1", x.differ(7, 1), 5);
        Due.is("2", x.differ(7, 2), 5);
        Due.is("not in it", x.differ(7, 9), 0);
        Due.is("there and back", x.differ(9, 1), 5 * 989);
        Due.is("there and back", x.differ(9, 0), -5 * 989);
        Due.is("not closed", x.differ(3, 0), -3);
        Due.is("not closed, hand not in it", x.differ(3, 7), -3);
        int[] none = {10, -1, MIN, MAX};
        for (int hand : none) {
            Due.is("no hand", x.differ(7, hand), NO);
            Due.is("NO ahead of STATE", x.differ(3, hand), NO);
        }
    }

    private static void found() {
        RailCargo x = new RailCargo();
        int[] bad = {0, -1, 4, MIN, MAX};
        for (int cargo : bad) {
            Due.is("found " + cargo, x.found(cargo), -2);
        }
        x.cargo(50, 0);
        x.cargo(50, 0);
        Due.is("no sales", x.found(0), -1);
        x.sale(0, 1, 5, 10, 1);
        x.sale(0, 12, 5, 10, 1);
        Due.is("no ring", x.found(0), -1);
        x.sale(0, 120, 5, 10, 1);
        Due.is("by another cargo", x.found(0), -1);
        x.sale(0, 20, 6, 10, 1);
        Due.is("by another amount", x.found(0), -1);
        x.sale(0, 20, 5, 10, 1);
        Due.is("0 1 4", x.found(0), 19);
        x.sale(0, 1, 5, 10, 1);
        Due.is("of like ones the least", x.found(0), 19);
        x.sale(0, 21, 5, 10, 1);
        Due.is("fewer", x.found(0), 2 | 1 << 6);
        x.sale(0, 10, 5, 10, 1);
        Due.is("0 7 is more than 1 6 as bits", x.found(0), 2 | 1 << 6);
        x.sale(0, 2, 5, 10, 1);
        Due.is("4 8 too", x.found(0), 2 | 1 << 6);
        Due.is("the other cargo's", x.found(1), -1);
        Due.is("no such", x.found(2), -2);
    }

    private static void foundOfTheFirstTwelve() {
        RailCargo x = new RailCargo();
        x.cargo(50, 0);
        for (int i = 0; i < 11; i++) {
            x.sale(0, 1, 5, 1, 1);
        }
        x.sale(0, 12, 5, 1, 1);
        x.sale(0, 10, 5, 1, 1);
        Due.is("by the thirteenth", x.found(0), -1);
        Due.is("it closes though", x.closes(1 | 1 << 12), 1);
        RailCargo y = new RailCargo();
        y.cargo(50, 0);
        for (int i = 0; i < 11; i++) {
            y.sale(0, 1, 5, 1, 1);
        }
        y.sale(0, 10, 5, 1, 1);
        Due.is("by the twelfth", y.found(0), 1 | 1 << 11);
    }

    private static void foundOfALongRing() {
        RailCargo x = new RailCargo();
        x.cargo(50, 0);
        x.sale(0, 4, 5, 1, 1);
        for (int i = 0; i < 9; i++) {
            x.sale(0, i * 10 + i + 1, 5, 1, 1);
        }
        Due.is("not closed", x.found(0), -1);
        x.sale(0, 90, 5, 1, 1);
        Due.is("by 0 4 5 6 7 8 9 0", x.found(0), 1 | 0x7e0);
        RailCargo y = new RailCargo();
        y.cargo(50, 0);
        for (int i = 0; i < 10; i++) {
            y.sale(0, (9 - i) * 10 + (19 - i - 1) % 10, 5, 1, 1);
        }
        Due.is("by all hands, each once", y.found(0), 1023);
    }

    private static void foundAmongMany() {
        RailCargo x = new RailCargo();
        x.cargo(50, 0);
        int[] wheres = {1, 1, 1, 12, 12, 12, 23, 23, 23, 30, 30, 30};
        for (int where : wheres) {
            x.sale(0, where, 5, 1, 1);
        }
        Due.is("the least of 81", x.found(0), 1 | 1 << 3 | 1 << 6 | 1 << 9);
    }
}
