/** Promises 19 to 24: loses, stops, two, hangs, moves, telegraph. */
public final class FailTest {
    private static final int MIN = Integer.MIN_VALUE, MAX = Integer.MAX_VALUE;
    private static final long NO = -4611686018427387904L;

    public static void main(String[] args) {
        loses();
        losesRefuses();
        stops();
        stopsByRule();
        two();
        hangs();
        hangsOfLikeOnes();
        hangsRefuses();
        moves();
        movesRefuses();
        telegraph();
        Due.end("FailTest");
    }

    private static void loses() {
        RailCargo x = new RailCargo();
        x.cargo(100, 0);
        x.cargo(100, 0);
        x.sale(0, 1, 10, 10, 10);
        x.sale(1, 1, 10, 20, 20);
        x.sale(0, 101, 1, 7, 30);
        x.sale(0, 21, 1, 9, 10);
        x.sale(0, 10, 1, 50, 10);
        Due.is("ahead of all", x.loses(10, 9), 0);
        Due.is("the first", x.loses(10, 10), 100);
        Due.is("not loaded: its thing hasn't passed", x.loses(10, 29), 100);
        x.hour(0, 0, 25);
        Due.is("not loaded then", x.loses(10, 24), 100);
        Due.is("loaded", x.loses(10, 25), 300);
        Due.is("the other cargo's too", x.loses(10, 30), 307);
        Due.is("late", x.loses(10, 61), 308);
        Due.is("the other hand", x.loses(12, 30), 9);
        Due.is("the other way", x.loses(1, 30), 50);
        Due.is("none", x.loses(19, 30), 0);
        x.pay(0, 40);
        Due.is("less what was paid", x.loses(10, 30), 267);
        x.pay(0, 100);
        Due.is("nothing below 0", x.loses(10, 30), 207);
        x.pay(1, 200);
        x.pay(2, 6);
        Due.is("nothing below 0", x.loses(10, 30), 1);
        x.pay(2, 6);
        Due.is("nothing below 0", x.loses(10, 30), 0);
    }

    private static void losesRefuses() {
        RailCargo x = new RailCargo();
        int[][] none = {{0, 0}, {11, 0}, {99, 0}, {100, 0}, {101, 0}, {-1, 0}, {-10, 0}, {MIN, 0}, {MAX, 0}, {1, -1},
            {1, 1000}, {1, MIN}, {1, MAX}};
        for (int[] b : none) {
            Due.is("loses " + b[0] + " " + b[1], x.loses(b[0], b[1]), NO);
        }
        Due.is("no sales", x.loses(98, 999), 0);
    }

    private static void stops() {
        RailCargo x = new RailCargo();
        x.cargo(100, 0);
        x.sale(0, 2, 10, 10, 10);
        x.sale(3, 2, 10, 10, 10);
        x.sale(3, 1, 10, 10, 10);
        x.sale(1, 12, 10, 10, 15);
        x.sale(5, 32, 10, 10, 40);
        Due.is("ahead of the first", x.stops(2, 9), 1 | 2 | 8 | 16);
        Due.is("its thing passed", x.stops(2, 10), 2 | 8 | 16);
        Due.is("19 hours on", x.stops(2, 29), 2 | 8 | 16);
        Due.is("20 hours on", x.stops(2, 30), 8 | 16);
        Due.is("later", x.stops(2, 35), 16);
        Due.is("the other hand", x.stops(1, 20), 4);
        Due.is("the seller", x.stops(0, 20), 0);
        x.paper(3, 12);
        Due.is("a paper that is not the thing", x.stops(2, 12), 2 | 16);
        Due.is("not handed on by then", x.stops(2, 11), 2 | 8 | 16);
        x.paper(4, 5);
        Due.is("handed on, the thing hasn't passed", x.stops(2, 11), 2 | 8);
        x.paper(1, 20);
        Due.is("not by then", x.stops(2, 19), 2);
        Due.is("by then", x.stops(2, 20), 0);
        x.hour(0, 0, 11);
        x.paper(3, -1);
        Due.is("loaded, but its hour is later", x.stops(2, 14), 2 | 8);
        Due.is("loaded", x.stops(2, 15), 2);
        int[][] bad = {{10, 0}, {-1, 0}, {MIN, 0}, {MAX, 0}, {0, -1}, {0, 1000}, {0, MIN}, {0, MAX}};
        for (int[] b : bad) {
            Due.is("stops " + b[0] + " " + b[1], x.stops(b[0], b[1]), -2);
        }
    }

    private static void stopsByRule() {
        RailCargo x = new RailCargo();
        x.cargo(100, 0);
        for (int i = 0; i < 24; i++) {
            x.sale(3, 1, i + 1, i, 0);
        }
        Due.is("all", x.stops(1, 0), (1 << 24) - 1);
        Due.text(x, "late 0;cut 0;stop amount - 3;");
        Due.text(x, "late 1;cut 1;stop 0;");
        x.force(1);
        Due.is("all but that of 3; below 0 is not 0", x.stops(1, 500), (1 << 24) - 1 - 4);
        x.force(2);
        Due.is("none", x.stops(1, 0), 0);
    }

    private static void two() {
        RailCargo x = new RailCargo();
        x.cargo(100, 0);
        for (int kind = 0; kind < 6; kind++) {
            x.sale(kind, 1, 10, 10, 500);
        }
        int[] papers = {3, 5};
        for (int sale : papers) {
            Due.is("the first one", x.two(sale, 8010, 2011), 8);
            Due.is("the other one", x.two(sale, 8010, 2009), 2);
            Due.is("like hours", x.two(sale, 8010, 2010), 2);
            Due.is("like hours", x.two(sale, 2010, 8010), 2);
            Due.is("edges", x.two(sale, 9999, 0), 0);
            Due.is("edges", x.two(sale, 0, 9999), 0);
            Due.is("edges", x.two(sale, 999, 9000), 9);
        }
        int[] others = {0, 1, 2, 4};
        for (int sale : others) {
            Due.is("of another kind", x.two(sale, 8010, 2011), -13);
            Due.is("BAD ahead of that", x.two(sale, 8010, 8011), -2);
            Due.is("BAD ahead of that", x.two(sale, 10000, 8011), -2);
        }
        int[][] bad = {{6, 8010, 2011}, {-1, 8010, 2011}, {MIN, 8010, 2011}, {MAX, 8010, 2011}, {3, 10000, 2011},
            {3, 8010, 10000}, {3, -1, 2011}, {3, 8010, -1}, {3, MIN, 1}, {3, 1, MAX}, {3, 1, 1}, {3, 1, 2}};
        for (int[] b : bad) {
            Due.is("two " + java.util.Arrays.toString(b), x.two(b[0], b[1], b[2]), -2);
        }
        Due.is("nothing is handed on by it", x.count(5), 0);
    }

    private static void hung(RailCargo x, int hour, int which, int much) {
        Due.is("hangs at " + hour, x.hangs(0, hour, 0), which);
        Due.is("how much hangs at " + hour, x.hangs(0, hour, 1), much);
    }

    private static void hangs() {
        RailCargo x = new RailCargo();
        x.cargo(100, 0);
        x.cargo(100, 0);
        x.sale(1, 1, 30, 1, 10);
        x.sale(2, 2, 50, 1, 20);
        x.sale(3, 13, 30, 1, 30);
        x.sale(4, 24, 10, 1, 20);
        x.sale(2, 102, 50, 1, 20);
        for (int sale = 0; sale < 4; sale++) {
            x.paper(sale, 15);
        }
        x.hour(0, 2, 5);
        hung(x, 999, -1, -1);
        x.hour(0, 0, 12);
        hung(x, 11, -1, -1);
        hung(x, 12, 0, 60);
        hung(x, 30, 0, 60);
        x.hour(0, 1, 40);
        hung(x, 39, 0, 60);
        hung(x, 40, 1, 100);
        Due.is("all is as it was", x.hour(0, 0, 12), 12);
        Due.is("all is as it was", x.hour(0, 1, 40), 40);
        Due.is("all is as it was", x.hour(0, 2, 5), 5);
        Due.is("all is as it was", x.told(0, 7), 15);
        Due.is("the other cargo", x.hangs(1, 999, 0), -1);
        x.hour(1, 1, 50);
        Due.is("the other cargo", x.hangs(1, 50, 0), 1);
        Due.is("the other cargo", x.hangs(1, 50, 1), 100);
    }

    private static void hangsOfLikeOnes() {
        RailCargo x = new RailCargo();
        x.cargo(100, 0);
        x.sale(2, 2, 50, 1, 20);
        x.sale(1, 1, 50, 1, 20);
        x.hour(0, 0, 12);
        x.hour(0, 1, 12);
        hung(x, 20, 0, 100);
        hung(x, 19, -1, -1);
    }

    private static void hangsRefuses() {
        RailCargo x = new RailCargo();
        x.cargo(100, 0);
        int[][] bad = {{1, 0, 0}, {-1, 0, 0}, {MIN, 0, 0}, {MAX, 0, 0}, {0, -1, 0}, {0, 1000, 0}, {0, MAX, 1},
            {0, 0, 2}, {0, 0, -1}, {0, 0, MIN}};
        for (int[] b : bad) {
            Due.is("hangs " + java.util.Arrays.toString(b), x.hangs(b[0], b[1], b[2]), -2);
        }
        Due.is("none changes any", x.hangs(0, 0, 1), -1);
    }

    private static void moves() {
        RailCargo x = new RailCargo();
        x.cargo(100, 0);
        x.sale(1, 1, 30, 1, 10);
        x.sale(0, 12, 20, 1, 15);
        x.hour(0, 0, 40);
        x.hour(0, 1, 60);
        x.paper(0, 12);
        Due.is("as a SALE, seller", x.moves(0, 0, 10), -30);
        Due.is("as a SALE, buyer", x.moves(0, 1, 10), 30);
        Due.is("as a SALE, sold on", x.moves(0, 1, 15), 10);
        Due.is("as a SALE, sold on", x.moves(0, 2, 15), 20);
        Due.is("as a SALE, once loaded", x.moves(0, 1, 40), -20);
        Due.is("as a SALE, once loaded", x.moves(0, 0, 40), 0);
        Due.is("as it is", x.moves(0, 11, 40), 0);
        Due.is("as LANDED", x.moves(0, 21, 40), -30);
        Due.is("as LANDED, once landed", x.moves(0, 21, 60), 0);
        Due.is("as PAPER", x.moves(0, 31, 12), 0);
        Due.is("as PAPER", x.moves(0, 31, 40), 0);
        Due.is("as HEAP", x.moves(0, 40, 59), 30);
        Due.is("as STRING, half way", x.moves(0, 51, 25), 30);
        Due.is("as STRING, ahead of that", x.moves(0, 51, 24), 0);
        Due.is("a hand beside", x.moves(0, 9, 25), 0);
        Due.is("its kind is as it was", x.told(0, 0), 1);
    }

    private static void movesRefuses() {
        RailCargo x = new RailCargo();
        x.cargo(100, 0);
        x.sale(1, 1, 30, 1, 10);
        int[][] none = {{1, 0, 0}, {-1, 0, 0}, {MIN, 0, 0}, {MAX, 0, 0}, {0, -1, 0}, {0, 60, 0}, {0, MIN, 0},
            {0, MAX, 0}, {0, 0, -1}, {0, 0, 1000}, {0, 0, MAX}};
        for (int[] b : none) {
            Due.is("moves " + java.util.Arrays.toString(b), x.moves(b[0], b[1], b[2]), NO);
        }
        Due.is("the last of all", x.moves(0, 59, 999), 0);
    }

    private static void telegraph() {
        RailCargo x = new RailCargo();
        x.cargo(100, 0);
        x.cargo(100, 0);
        x.sale(0, 1, 100, 1, 10);
        x.sale(0, 2, 10, 1, 20);
        x.sale(0, 12, 10, 1, 20);
        x.sale(3, 23, 10, 1, 30);
        x.sale(0, 101, 10, 1, 30);
        Due.is("ahead of all", x.telegraph(0, 9), 1 | 2);
        Due.is("its hour is not later", x.telegraph(0, 10), 4);
        Due.is("its hour is not later", x.telegraph(0, 20), 8);
        Due.is("none later", x.telegraph(0, 30), 0);
        Due.is("the other cargo", x.telegraph(1, 29), 16);
        Due.is("the other cargo", x.telegraph(1, 30), 0);
        int[][] bad = {{2, 0}, {-1, 0}, {MIN, 0}, {MAX, 0}, {0, -1}, {0, 1000}, {0, MIN}, {0, MAX}};
        for (int[] b : bad) {
            Due.is("telegraph " + b[0] + " " + b[1], x.telegraph(b[0], b[1]), -2);
        }
        RailCargo y = new RailCargo();
        y.cargo(100, 0);
        y.sale(3, 1, 100, 1, 10);
        y.sale(0, 12, 100, 1, 50);
        y.paper(0, 20);
        Due.is("the thing is its, but not at its risk", y.telegraph(0, 20), 0);
        y.hour(0, 0, 20);
        Due.is("at its risk", y.telegraph(0, 20), 2);
    }
}
