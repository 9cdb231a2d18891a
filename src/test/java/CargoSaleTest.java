/** Promises 1 to 7: a new object, cargo, hour, sale, paper, pay, told. */
public final class CargoSaleTest {
    private static final int MIN = Integer.MIN_VALUE, MAX = Integer.MAX_VALUE;

    public static void main(String[] args) {
        newObject();
        cargo();
        hour();
        sale();
        paper();
        pay();
        told();
        toldThing();
        toldLoss();
        Due.end("CargoSaleTest");
    }

    private static void newObject() {
        RailCargo x = new RailCargo();
        Due.is("new cargoes", x.count(0), 0);
        Due.is("new sales", x.count(1), 0);
        Due.is("new texts", x.count(2), 1);
        Due.is("new tape", x.count(3), 0);
        Due.is("new rule", x.count(4), 0);
        Due.is("new papers", x.count(5), 0);
        Due.is("new paid", x.count(6), 0);
        Due.is("whose of none", x.whose(0, 0, 0, 0), -2);
        Due.is("told of none", x.told(0, 0), -5);
        Due.is("no image", x.back(), -3);
        Due.is("sheet missing", x.cell(0, 0, 0), -11);
        Due.is("sheet missing", x.cell(3, 0, 0), -11);
    }

    private static void cargo() {
        RailCargo x = new RailCargo();
        int[][] bad = {{0, 0}, {1000, 0}, {-1, 0}, {MIN, 0}, {MAX, 0}, {5, -1}, {5, 10}, {5, MIN}, {5, MAX}};
        for (int[] b : bad) {
            Due.is("cargo " + b[0] + " " + b[1], x.cargo(b[0], b[1]), -2);
        }
        Due.is("refused ones change nothing", x.count(0), 0);
        Due.is("least", x.cargo(1, 0), 0);
        Due.is("most", x.cargo(999, 9), 1);
        Due.is("third", x.cargo(7, 3), 2);
        Due.is("fourth", x.cargo(8, 4), 3);
        Due.is("fifth", x.cargo(8, 4), -4);
        Due.is("BAD ahead of FULL", x.cargo(0, 4), -2);
        Due.is("four", x.count(0), 4);
        Due.is("all is the first hand's", x.whose(1, 9, 0, 0), 999);
        Due.is("all at the first hand's risk", x.whose(2, 3, 999, 1), 7);
        Due.is("none the other's", x.whose(2, 4, 0, 0), 0);
    }

    private static void hour() {
        RailCargo x = new RailCargo();
        x.cargo(10, 0);
        x.cargo(10, 0);
        for (int what = 0; what < 3; what++) {
            Due.is("at first not yet", x.hour(0, what, 100 + what), -1);
            Due.is("what was", x.hour(0, what, 0), 100 + what);
            Due.is("0 was", x.hour(0, what, 999), 0);
            Due.is("999 was", x.hour(0, what, -1), 999);
            Due.is("NONE was", x.hour(0, what, 5 + what), -1);
        }
        int[][] bad = {{2, 0, 1}, {-1, 0, 1}, {MAX, 0, 1}, {MIN, 0, 1}, {0, 3, 1}, {0, -1, 1}, {0, MAX, 1},
            {0, 0, 1000}, {0, 0, -2}, {0, 0, MIN}, {0, 0, MAX}};
        for (int[] b : bad) {
            Due.is("hour " + b[0] + " " + b[1] + " " + b[2], x.hour(b[0], b[1], b[2]), -2);
        }
        Due.is("refused ones change nothing", x.hour(0, 0, 1), 5);
        Due.is("each hour by itself", x.hour(0, 1, 1), 6);
        Due.is("each hour by itself", x.hour(0, 2, 1), 7);
        Due.is("each cargo by itself", x.hour(1, 0, 1), -1);
    }

    private static void sale() {
        RailCargo x = new RailCargo();
        Due.is("no cargo yet", x.sale(0, 1, 1, 1, 1), -2);
        x.cargo(10, 0);
        x.cargo(10, 0);
        int[][] bad = {{-1, 1, 1, 1, 1}, {6, 1, 1, 1, 1}, {MIN, 1, 1, 1, 1}, {MAX, 1, 1, 1, 1}, {0, -1, 1, 1, 1},
            {0, 200, 1, 1, 1}, {0, 201, 1, 1, 1}, {0, MIN, 1, 1, 1}, {0, MAX, 1, 1, 1}, {0, 0, 1, 1, 1},
            {0, 33, 1, 1, 1}, {0, 199, 1, 1, 1}, {0, 1, 0, 1, 1}, {0, 1, 1000, 1, 1}, {0, 1, -5, 1, 1},
            {0, 1, MAX, 1, 1}, {0, 1, 1, -1, 1}, {0, 1, 1, 1000, 1}, {0, 1, 1, MIN, 1}, {0, 1, 1, 1, -1},
            {0, 1, 1, 1, 1000}, {0, 1, 1, 1, MAX}};
        for (int[] b : bad) {
            Due.is("sale " + java.util.Arrays.toString(b), x.sale(b[0], b[1], b[2], b[3], b[4]), -2);
        }
        Due.is("refused ones change nothing", x.count(1), 0);
        Due.is("least", x.sale(0, 1, 1, 0, 0), 0);
        Due.is("most", x.sale(5, 198, 999, 999, 999), 1);
        for (int i = 2; i < 24; i++) {
            Due.is("sale " + i, x.sale(i % 6, 12, i, i, i), i);
        }
        Due.is("full", x.sale(0, 1, 1, 1, 1), -4);
        Due.is("BAD ahead of FULL", x.sale(0, 11, 1, 1, 1), -2);
        Due.is("24", x.count(1), 24);
        int[] first = {0, 0, 0, 1, 1, 0, 0, -1, 0, 0, 0};
        int[] second = {5, 1, 9, 8, 999, 999, 999, -1, 0, 1000, 1000};
        for (int what = 0; what <= 10; what++) {
            Due.is("told 0 " + what, x.told(0, what), first[what]);
            Due.is("told 1 " + what, x.told(1, what), second[what]);
        }
    }

    private static void paper() {
        RailCargo x = new RailCargo();
        x.cargo(10, 0);
        x.sale(0, 1, 1, 1, 1);
        x.sale(3, 1, 1, 1, 1);
        Due.is("not yet", x.paper(0, 0), -1);
        Due.is("0 was", x.paper(0, 999), 0);
        Due.is("999 was", x.paper(0, -1), 999);
        Due.is("NONE was", x.paper(0, 7), -1);
        int[][] bad = {{2, 1}, {-1, 1}, {MIN, 1}, {MAX, 1}, {0, -2}, {0, 1000}, {0, MIN}, {0, MAX}};
        for (int[] b : bad) {
            Due.is("paper " + b[0] + " " + b[1], x.paper(b[0], b[1]), -2);
        }
        Due.is("told", x.told(0, 7), 7);
        Due.is("the other one's", x.told(1, 7), -1);
    }

    private static void pay() {
        RailCargo x = new RailCargo();
        x.cargo(10, 0);
        x.sale(0, 1, 1, 1, 1);
        x.sale(0, 1, 1, 1, 1);
        Due.is("nothing", x.pay(0, 0), 0);
        Due.is("300", x.pay(0, 300), 300);
        Due.is("500 in all", x.pay(0, 200), 500);
        Due.is("the other sale", x.pay(1, 7), 7);
        int[][] bad = {{2, 1}, {-1, 1}, {MAX, 1}, {MIN, 1}, {0, -1}, {0, MIN}, {2, MAX}, {0, MAX},
            {0, 1000000}, {1, 697592880}};
        for (int[] b : bad) {
            Due.is("pay " + b[0] + " " + b[1], x.pay(b[0], b[1]), -2);
        }
        Due.is("one too much", x.pay(0, 999500), -4);
        Due.is("the greatest coin, too much with what was paid", x.pay(0, 999999), -4);
        Due.is("refused ones change nothing", x.told(0, 8), 500);
        Due.is("the most", x.pay(0, 999499), 999999);
        Due.is("nothing more", x.pay(0, 0), 999999);
        Due.is("one more", x.pay(0, 1), -4);
        Due.is("no coin at all, where none has room either", x.pay(0, 1000000), -2);
        Due.is("in all", x.count(6), 1000006);
        RailCargo y = new RailCargo();
        y.cargo(10, 0);
        y.sale(0, 1, 1, 1, 1);
        Due.is("above the greatest coin", y.pay(0, 1000000), -2);
        Due.is("the greatest coin", y.pay(0, 999999), 999999);
    }

    private static void told() {
        RailCargo x = new RailCargo();
        x.cargo(10, 0);
        x.cargo(20, 0);
        x.sale(3, 147, 12, 34, 56);
        x.paper(0, 78);
        x.pay(0, 90);
        x.hour(1, 0, 100);
        int[] want = {3, 1, 4, 7, 12, 34, 56, 78, 90, 78, 100};
        for (int what = 0; what <= 10; what++) {
            Due.is("told " + what, x.told(0, what), want[what]);
        }
        int[][] none = {{1, 0}, {-1, 0}, {MIN, 0}, {MAX, 0}, {0, -1}, {0, 11}, {0, MIN}, {0, MAX}};
        for (int[] b : none) {
            Due.is("told " + b[0] + " " + b[1], x.told(b[0], b[1]), -5);
        }
    }

    private static RailCargo oneOfEachKind() {
        RailCargo x = new RailCargo();
        x.cargo(10, 0);
        for (int kind = 0; kind < 6; kind++) {
            x.sale(kind, 1, 1, 1, 20);
        }
        return x;
    }

    private static void all(RailCargo x, String when, int what, int... want) {
        for (int kind = 0; kind < 6; kind++) {
            Due.is(when + ", kind " + kind + ", told " + what, x.told(kind, what), want[kind]);
        }
    }

    private static void toldThing() {
        RailCargo x = oneOfEachKind();
        all(x, "nothing yet", 9, 20, 1000, 1000, 1000, 1000, 1000);
        x.hour(0, 0, 10);
        all(x, "loaded ahead", 9, 20, 20, 1000, 1000, 1000, 1000);
        x.hour(0, 0, 30);
        all(x, "loaded", 9, 20, 30, 1000, 1000, 1000, 1000);
        x.hour(0, 1, 40);
        all(x, "landed", 9, 20, 30, 40, 1000, 1000, 1000);
        x.hour(0, 2, 35);
        all(x, "apart ahead of landing", 9, 20, 30, 40, 1000, 40, 1000);
        x.hour(0, 2, 45);
        all(x, "apart", 9, 20, 30, 40, 1000, 45, 1000);
        x.hour(0, 1, -1);
        all(x, "apart, not landed", 9, 20, 30, 1000, 1000, 1000, 1000);
        x.hour(0, 1, 5);
        x.hour(0, 2, 6);
        all(x, "landed, apart ahead of the sale", 9, 20, 30, 20, 1000, 20, 1000);
        for (int sale = 0; sale < 6; sale++) {
            x.paper(sale, 15);
        }
        all(x, "papers ahead", 9, 20, 30, 20, 20, 20, 20);
        for (int sale = 0; sale < 6; sale++) {
            x.paper(sale, 50 + sale);
        }
        all(x, "papers", 9, 20, 30, 20, 53, 20, 55);
        x.paper(3, -1);
        x.paper(5, 0);
        all(x, "papers not yet and at 0", 9, 20, 30, 20, 1000, 20, 20);
    }

    private static void toldLoss() {
        RailCargo x = oneOfEachKind();
        all(x, "nothing yet", 10, 20, 1000, 1000, 1000, 1000, 1000);
        for (int sale = 0; sale < 6; sale++) {
            x.paper(sale, 15);
        }
        all(x, "papers move no loss", 10, 20, 1000, 1000, 1000, 1000, 1000);
        x.hour(0, 0, 10);
        all(x, "loaded ahead", 10, 20, 20, 1000, 20, 1000, 20);
        x.hour(0, 0, 31);
        all(x, "loaded", 10, 20, 31, 1000, 31, 1000, 25);
        x.hour(0, 0, 999);
        all(x, "loaded at the last hour", 10, 20, 999, 1000, 999, 1000, 509);
        x.hour(0, 1, 40);
        all(x, "landed", 10, 20, 999, 40, 999, 40, 509);
        x.hour(0, 2, 60);
        all(x, "apart moves no loss", 10, 20, 999, 40, 999, 40, 509);
        x.hour(0, 1, 4);
        x.hour(0, 0, -1);
        all(x, "landed ahead, not loaded", 10, 20, 1000, 20, 1000, 20, 1000);
    }
}
