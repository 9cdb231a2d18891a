/** Promises 25 to 27: image, back, count. */
public final class ImageCountTest {
    private static final int MIN = Integer.MIN_VALUE, MAX = Integer.MAX_VALUE;

    public static void main(String[] args) {
        none();
        kept();
        sinceThen();
        again();
        count();
        Due.end("ImageCountTest");
    }

    private static void none() {
        RailCargo x = new RailCargo();
        Due.is("there is none", x.back(), -3);
        Due.is("of nothing", x.image(), 0);
        Due.is("of nothing", x.back(), 0);
    }

    private static RailCargo filled() {
        RailCargo x = new RailCargo();
        x.cargo(10, 0);
        x.cargo(20, 1);
        x.sale(3, 1, 5, 5, 5);
        x.sale(5, 112, 5, 5, 5);
        Due.text(x, "late 1;cut 0;stop 0;");
        for (int what = 0; what < 3; what++) {
            x.hour(0, what, 10 + what);
            x.hour(1, what, 20 + what);
        }
        x.paper(0, 30);
        x.pay(1, 40);
        x.force(1);
        return x;
    }

    private static void kept() {
        RailCargo x = filled();
        Due.is("two sales", x.image(), 2);
        for (int what = 0; what < 3; what++) {
            x.hour(0, what, -1);
            x.hour(1, what, 500 + what);
        }
        x.paper(0, -1);
        x.paper(1, 77);
        x.pay(0, 8);
        x.pay(1, 9);
        x.force(0);
        Due.is("two sales", x.back(), 2);
        Due.is("papers", x.told(0, 7), 30);
        Due.is("papers not yet", x.told(1, 7), -1);
        Due.is("paid", x.told(0, 8), 0);
        Due.is("paid", x.told(1, 8), 40);
        Due.is("the rule", x.count(4), 1);
        Due.is("by that rule", x.owes(0, 5), 26);
        for (int what = 0; what < 3; what++) {
            Due.is("hour", x.hour(0, what, 1), 10 + what);
            Due.is("hour", x.hour(1, what, 1), 20 + what);
        }
    }

    private static void sinceThen() {
        RailCargo x = filled();
        x.image();
        Due.feed(x, "late");
        Due.is("a cargo since", x.cargo(30, 2), 2);
        x.hour(2, 1, 99);
        Due.is("a sale since", x.sale(1, 134, 6, 7, 8), 2);
        x.paper(2, 88);
        x.pay(2, 66);
        Due.is("all the sales", x.back(), 3);
        Due.is("the cargo stays", x.count(0), 3);
        Due.is("its hour stays", x.hour(2, 1, 99), 99);
        Due.is("the paper stays", x.told(2, 7), 88);
        Due.is("what was paid stays", x.told(2, 8), 66);
        Due.is("the tape stays", x.count(3), 4);
        Due.is("a text since", Due.text(x, " 1;cut 0;stop 0;"), 2);
        x.force(2);
        x.back();
        Due.is("the text stays", x.count(2), 3);
        Due.is("the rule does not", x.count(4), 1);
    }

    private static void again() {
        RailCargo x = filled();
        x.image();
        x.paper(0, 31);
        x.back();
        x.paper(0, 32);
        x.back();
        Due.is("more than once", x.told(0, 7), 30);
        x.paper(0, 33);
        x.sale(1, 134, 6, 7, 8);
        Due.is("a later image", x.image(), 3);
        x.paper(0, 34);
        x.paper(2, 35);
        x.back();
        Due.is("by the later one", x.told(0, 7), 33);
        Due.is("by the later one", x.told(2, 7), -1);
    }

    private static void count() {
        RailCargo x = filled();
        Due.feed(x, "abcde");
        x.paper(1, 0);
        x.pay(0, 2);
        int[] want = {2, 2, 2, 5, 1, 2, 42};
        for (int what = 0; what < 7; what++) {
            Due.is("count " + what, x.count(what), want[what]);
        }
        x.paper(0, -1);
        Due.is("one paper", x.count(5), 1);
        int[] bad = {-1, 7, MIN, MAX};
        for (int what : bad) {
            Due.is("count " + what, x.count(what), -2);
        }
        RailCargo y = new RailCargo();
        y.cargo(1, 0);
        for (int i = 0; i < 24; i++) {
            y.sale(0, 1, 1, 1, 1);
            y.pay(i, 999999);
        }
        Due.is("the most that can be paid", y.count(6), 24 * 999999);
    }
}
