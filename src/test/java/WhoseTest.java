/** Promises 8 to 10: whose, falls, between. */
public final class WhoseTest {
    private static final int MIN = Integer.MIN_VALUE, MAX = Integer.MAX_VALUE;
    private static final long NO = -4611686018427387904L;

    public static void main(String[] args) {
        whoseByHours();
        whoseByNumbers();
        whoseByThingAndLoss();
        whoseRefuses();
        falls();
        fallsRefuses();
        between();
        betweenWithinAnHour();
        betweenRefuses();
        Due.end("WhoseTest");
    }

    private static void holds(RailCargo x, String when, int hour, int what, int... want) {
        for (int hand = 0; hand < want.length; hand++) {
            Due.is(when + ", hand " + hand, x.whose(0, hand, hour, what), want[hand]);
        }
    }

    private static void whoseByHours() {
        RailCargo x = new RailCargo();
        x.cargo(100, 0);
        x.cargo(50, 1);
        x.sale(0, 12, 70, 1, 30);
        x.sale(0, 1, 60, 1, 20);
        x.sale(0, 101, 50, 1, 0);
        x.sale(0, 110, 20, 1, 40);
        for (int what = 0; what < 2; what++) {
            holds(x, "ahead of all", 19, what, 100, 0, 0);
            holds(x, "in the hour", 20, what, 40, 60, 0);
            holds(x, "ahead of the second", 29, what, 40, 60, 0);
            holds(x, "no more than it has", 30, what, 40, 0, 60);
            holds(x, "at last", 999, what, 40, 0, 60);
            Due.is("the other cargo", x.whose(1, 0, 999, what), 20);
            Due.is("the other cargo", x.whose(1, 1, 39, what), 50);
            Due.is("the other cargo", x.whose(1, 1, 40, what), 30);
        }
    }

    private static void whoseByNumbers() {
        RailCargo x = new RailCargo();
        x.cargo(10, 0);
        x.sale(0, 12, 10, 1, 5);
        x.sale(0, 1, 10, 1, 5);
        x.sale(0, 13, 4, 1, 5);
        holds(x, "of like hours by numbers", 5, 0, 0, 6, 0, 4);
        holds(x, "of like hours by numbers", 5, 1, 0, 6, 0, 4);
    }

    private static void whoseByThingAndLoss() {
        RailCargo x = new RailCargo();
        x.cargo(10, 0);
        x.sale(3, 1, 6, 1, 10);
        x.sale(5, 12, 4, 1, 20);
        x.sale(4, 3, 4, 1, 5);
        x.hour(0, 0, 30);
        x.paper(0, 50);
        x.paper(1, 40);
        holds(x, "risk of the string half way, from none", 25, 1, 10, 0, 0, 0);
        holds(x, "risk as loaded", 30, 1, 4, 6, 0, 0);
        holds(x, "the thing not yet", 49, 0, 10, 0, 0, 0);
        holds(x, "the string's thing came from none", 50, 0, 4, 6, 0, 0);
        x.hour(0, 1, 60);
        holds(x, "landed: the loss of the heap", 60, 1, 0, 6, 0, 4);
        holds(x, "landed, not apart: not its thing", 999, 0, 4, 6, 0, 0);
        x.hour(0, 2, 70);
        holds(x, "apart", 69, 0, 4, 6, 0, 0);
        holds(x, "apart", 70, 0, 0, 6, 0, 4);
    }

    private static void whoseRefuses() {
        RailCargo x = new RailCargo();
        x.cargo(10, 0);
        int[][] bad = {{1, 0, 0, 0}, {-1, 0, 0, 0}, {MIN, 0, 0, 0}, {MAX, 0, 0, 0}, {0, 10, 0, 0}, {0, -1, 0, 0},
            {0, MAX, 0, 0}, {0, 0, -1, 0}, {0, 0, 1000, 0}, {0, 0, MAX, 0}, {0, 0, 0, 2}, {0, 0, 0, -1},
            {0, 0, 0, MIN}};
        for (int[] b : bad) {
            Due.is("whose " + java.util.Arrays.toString(b), x.whose(b[0], b[1], b[2], b[3]), -2);
        }
    }

    private static void fraction(RailCargo x, int hand, int when, long above, long below) {
        Due.is("falls " + hand + " " + when + " above", x.falls(0, hand, when, 0), above);
        Due.is("falls " + hand + " " + when + " below", x.falls(0, hand, when, 1), below);
    }

    private static void falls() {
        RailCargo x = new RailCargo();
        x.cargo(12, 0);
        x.sale(0, 1, 5, 1, 10);
        fraction(x, 0, 9004, 4, 1);
        fraction(x, 0, 10004, 7, 3);
        fraction(x, 1, 10004, 5, 3);
        fraction(x, 1, 10001, 5, 12);
        fraction(x, 1, 999012, 5, 1);
        fraction(x, 1, 10000, 0, 1);
        fraction(x, 2, 10012, 0, 1);
        fraction(x, 0, 0, 0, 1);
        x.sale(1, 2, 7, 1, 0);
        fraction(x, 0, 10012, 7, 1);
        x.hour(0, 0, 10);
        fraction(x, 0, 10012, 0, 1);
        fraction(x, 2, 10006, 7, 2);
        fraction(x, 1, 10012, 5, 1);
    }

    private static void fallsRefuses() {
        RailCargo x = new RailCargo();
        x.cargo(12, 0);
        x.cargo(999, 0);
        Due.is("all of the greatest", x.falls(1, 0, 999999, 0), 999);
        Due.is("all of the greatest", x.falls(1, 0, 999999, 1), 1);
        int[][] none = {{2, 0, 0, 0}, {-1, 0, 0, 0}, {MAX, 0, 0, 0}, {0, 10, 0, 0}, {0, -1, 0, 0}, {0, 0, 13, 0},
            {0, 0, 999, 1}, {0, 0, -1, 0}, {0, 0, MIN, 0}, {0, 0, -999, 1}, {0, 0, 1000000, 0}, {0, 0, MAX, 0},
            {0, 0, 0, 2}, {0, 0, 0, -1}, {0, 0, 0, MAX}};
        for (int[] b : none) {
            Due.is("falls " + java.util.Arrays.toString(b), x.falls(b[0], b[1], b[2], b[3]), NO);
        }
    }

    private static void span(RailCargo x, int hand, int hours, int least, int greatest) {
        Due.is("between " + hand + " " + hours + " least", x.between(0, hand, hours, 0), least);
        Due.is("between " + hand + " " + hours + " greatest", x.between(0, hand, hours, 1), greatest);
    }

    private static void between() {
        RailCargo x = new RailCargo();
        x.cargo(100, 0);
        x.sale(0, 1, 60, 1, 10);
        x.sale(0, 12, 25, 1, 20);
        x.sale(0, 1, 30, 1, 30);
        span(x, 1, 9009, 0, 0);
        span(x, 1, 9010, 0, 60);
        span(x, 1, 10010, 60, 60);
        span(x, 1, 10019, 60, 60);
        span(x, 1, 10020, 35, 60);
        span(x, 1, 15035, 35, 65);
        span(x, 1, 20029, 35, 35);
        span(x, 1, 999, 0, 65);
        span(x, 0, 999, 10, 100);
        span(x, 0, 999999, 10, 10);
        span(x, 9, 999, 0, 0);
        x.sale(3, 3, 10, 1, 0);
        x.paper(3, 5);
        span(x, 3, 999, 0, 0);
        x.hour(0, 0, 15);
        span(x, 3, 999, 0, 10);
        span(x, 3, 14, 0, 0);
    }

    private static void betweenWithinAnHour() {
        RailCargo x = new RailCargo();
        x.cargo(100, 0);
        x.sale(0, 1, 60, 1, 10);
        x.sale(0, 12, 60, 1, 10);
        x.sale(0, 10, 60, 1, 10);
        span(x, 1, 999, 0, 0);
        span(x, 0, 999, 40, 100);
        span(x, 2, 10010, 60, 60);
    }

    private static void betweenRefuses() {
        RailCargo x = new RailCargo();
        x.cargo(12, 0);
        int[][] bad = {{1, 0, 0, 0}, {-1, 0, 0, 0}, {MIN, 0, 0, 0}, {0, 10, 0, 0}, {0, -1, 0, 0}, {0, 0, -1, 0},
            {0, 0, MIN, 0}, {0, 0, 1000, 0}, {0, 0, 5004, 1}, {0, 0, 1000000, 0}, {0, 0, MAX, 0}, {0, 0, 0, 2},
            {0, 0, 0, -1}, {0, 0, 0, MAX}};
        for (int[] b : bad) {
            Due.is("between " + java.util.Arrays.toString(b), x.between(b[0], b[1], b[2], b[3]), -2);
        }
        Due.is("one hour", x.between(0, 0, 5005, 0), 12);
    }
}
