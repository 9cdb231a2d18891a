/** Objects as the tests of boundary cases find them, and how a call is asked at the ends of what it takes. */
final class Made {
    static final int MIN = Integer.MIN_VALUE, MAX = Integer.MAX_VALUE;
    static final long NO = -4611686018427387904L;

    private Made() {
    }

    /** A call of which one number is left open. */
    interface Asked {
        long of(RailCargo x, int n);
    }

    /** One CARGO of so much, all of it hand 0's. */
    static RailCargo cargo(int amount) {
        RailCargo x = new RailCargo();
        x.cargo(amount, 0);
        return x;
    }

    /** A CARGO of 10 of hand 0's, and sale k of KIND k of it by hand 0 to hand 1: 1 at price 1, hour 20. */
    static RailCargo kinds() {
        RailCargo x = cargo(10);
        for (int kind = 0; kind < 6; kind++) {
            x.sale(kind, 1, 1, 1, 20);
        }
        return x;
    }

    /** Some of everything: an image and what came since, a tape that is a text but for its last two signs. */
    static RailCargo some() {
        RailCargo x = cargo(100);
        x.cargo(50, 2);
        x.sale(0, 1, 30, 7, 10);
        x.sale(3, 12, 20, 8, 20);
        x.sale(4, 123, 40, 9, 30);
        x.hour(0, 0, 25);
        x.paper(1, 40);
        x.pay(0, 77);
        Due.text(x, "late 5;cut 6;stop 7;");
        x.image();
        x.hour(1, 1, 35);
        x.hour(1, 2, 36);
        x.paper(2, 50);
        x.pay(1, 66);
        x.force(1);
        Due.feed(x, "late 8;cut 9;stop ");
        x.sheet(0, 2, 10);
        x.sheet(1, 0, 5);
        int[] rows = {0, 1, 1, 11, 12, 1, 12, 2, 13, 14, 2, 23, 3, 16, 17};
        for (int i = 0; i < rows.length; i++) {
            x.cell(i / 10, i % 10, rows[i]);
        }
        return x;
    }

    /** No room for anything more: 4 cargoes, 24 sales that are paid for as far as can be, 6 texts, 160 bytes. */
    static RailCargo full() {
        RailCargo x = new RailCargo();
        for (int cargo = 0; cargo < 4; cargo++) {
            x.cargo(900 + cargo, cargo);
        }
        for (int sale = 0; sale < 24; sale++) {
            x.sale(3, 100 * (sale % 4) + 56, 10 + sale, sale, 30 + sale);
            x.pay(sale, 999999);
        }
        for (int text = 1; text < 6; text++) {
            Due.text(x, "late 0;cut 0;stop 0;");
        }
        Due.feed(x, "late 8;cut 9;stop 3;".repeat(8));
        return x;
    }

    /** A number from the least to the most is taken, the next one beside either is refused. */
    static void within(String call, long refusal, int least, int most, Asked asked) {
        Due.isNot(call + " with " + least, asked.of(kinds(), least), refusal);
        Due.isNot(call + " with " + most, asked.of(kinds(), most), refusal);
        refused(call, refusal, asked, least - 1, most + 1);
    }

    static void refused(String call, long refusal, Asked asked, int... none) {
        for (int n : none) {
            Due.is(call + " with " + n, asked.of(kinds(), n), refusal);
        }
    }

    /** Whose a cargo is at an hour, from hand 0 on. */
    static void holds(RailCargo x, int hour, int what, int... want) {
        for (int hand = 0; hand < want.length; hand++) {
            Due.is("whose(0, " + hand + ", " + hour + ", " + what + ")", x.whose(0, hand, hour, what), want[hand]);
        }
    }
}
