/** Promises 11 to 15: feed, text, force, owes, balance; and how texts are read and reckoned. */
public final class TextTest {
    private static final int MIN = Integer.MIN_VALUE, MAX = Integer.MAX_VALUE;
    private static final long NO = -4611686018427387904L;

    public static void main(String[] args) {
        feed();
        textNumbers();
        textFull();
        faultsOfForm();
        faultsOfTokens();
        faultsOfDepth();
        wellFormed();
        afterFaults();
        force();
        names();
        values();
        bounds();
        owes();
        balance();
        Due.end("TextTest");
    }

    private static void feed() {
        RailCargo x = new RailCargo();
        int[] bad = {0, 9, -1, MIN, MAX};
        for (int n : bad) {
            Due.is("feed " + n, x.feed(n, 0), -2);
        }
        Due.is("none came", x.count(3), 0);
        for (int n = 1; n <= 8; n++) {
            Due.is("feed " + n, x.feed(n, -1L), n * (n + 1) / 2);
        }
        for (int i = 0; i < 15; i++) {
            Due.is("eight more", x.feed(8, 0), 44 + 8 * i);
        }
        Due.is("no room for five", x.feed(5, 0), -4);
        Due.is("BAD ahead of FULL", x.feed(9, 0), -2);
        Due.is("refused ones change nothing", x.count(3), 156);
        Due.is("the last four", x.feed(4, 0), 160);
        Due.is("none more", x.feed(1, 0), -4);
        Due.is("160", x.count(3), 160);
        RailCargo y = new RailCargo();
        y.feed(3, 0x4141_4141_3120_2020L | 0x20);
        Due.is("the lowest three alone, the lowest first", y.text(), -103);
        y.feed(2, 0x3120L);
        Due.is("a blank ahead of 1", y.text(), -101);
        y.feed(2, 0x2031L);
        Due.is("1 ahead of a blank", y.text(), -100);
        y.feed(8, 0x3120_2020_2020_2020L);
        Due.is("the highest byte comes last", y.text(), -107);
    }

    private static void textNumbers() {
        RailCargo x = new RailCargo();
        Due.is("empty", x.text(), -100);
        Due.is("one text as before", x.count(2), 1);
        Due.is("first", Due.text(x, "late 1;cut 2;stop 3;"), 1);
        Due.is("the tape is empty then", x.count(3), 0);
        Due.is("fault", Due.text(x, "late 1;cut 2;stop 3"), -119);
        Due.is("the tape is empty then, too", x.count(3), 0);
        Due.is("second", Due.text(x, "late 1;cut 2;stop 3;"), 2);
        Due.is("three texts", x.count(2), 3);
        Due.is("the rule is as it was", x.count(4), 0);
    }

    private static void textFull() {
        RailCargo x = new RailCargo();
        for (int i = 1; i < 6; i++) {
            Due.is("text " + i, Due.text(x, "late 1;cut 2;stop 3;"), i);
        }
        Due.is("six", x.count(2), 6);
        Due.is("full, the tape empty", x.text(), -4);
        Due.feed(x, "late");
        Due.is("full ahead of the fault", x.text(), -4);
        Due.is("the tape stays", x.count(3), 4);
        Due.is("six as before", x.count(2), 6);
    }

    static void fault(String text, int place) {
        Due.is("[" + text + "]", Due.text(new RailCargo(), text), -100 - place);
    }

    /** The fault of an E, by its own places; it stands behind "late ". */
    static void faultOf(String e, int place) {
        fault("late " + e + ";cut 0;stop 0;", 5 + place);
    }

    static void good(String text) {
        Due.is("[" + text + "]", Due.text(new RailCargo(), text), 1);
    }

    static void goodOf(String e) {
        good("late " + e + ";cut 0;stop 0;");
    }

    private static void faultsOfForm() {
        fault(" ", 1);
        fault("\n \n", 3);
        fault("cut 0;", 0);
        fault("  cut 0;", 2);
        fault("late", 4);
        fault("late ", 5);
        fault("late 1", 6);
        fault("late 1 ", 7);
        fault("late 1;", 7);
        fault("late ;", 5);
        fault("late late 1;", 5);
        fault("late 1;stop 1;cut 1;", 7);
        fault("late 1;cut 1;cut 1;", 13);
        fault("late 1;cut 1;stop 1;;", 20);
        fault("late 1;cut 1;stop 1; late", 21);
        fault("late 1;cut 1;stop 1", 19);
        fault("late 1;cut 1;stop 1  ", 21);
        fault("late 1 cut 1;stop 1;", 7);
        faultOf("1 2", 2);
        faultOf("1 kind", 2);
        faultOf("1 not 2", 2);
        faultOf("1 + not 2", 4);
        faultOf("1 + ", 4);
        faultOf("+ 1", 0);
        faultOf("* 1", 0);
        faultOf("1 * * 2", 4);
        faultOf("1 * + 2", 4);
        faultOf("1 < 2 < 3", 6);
        faultOf("1 = 2 < 3", 6);
        faultOf("1 < 2 = 3", 6);
        faultOf("1 < not 2", 4);
        faultOf("1 < = 2", 4);
        faultOf("1 or", 4);
        faultOf("1 or or 2", 5);
        faultOf("or 1", 0);
        faultOf("and 1", 0);
        faultOf("1 and", 5);
        faultOf("not", 3);
        faultOf("not < 1", 4);
        faultOf("(1", 2);
        faultOf("1)", 1);
        faultOf("()", 1);
        faultOf("(1))", 3);
        faultOf("(1 2)", 3);
        faultOf("1 (2)", 2);
        faultOf("kind(2)", 4);
        faultOf("-", 1);
        faultOf("- not 1", 2);
        faultOf("1 - ", 4);
        faultOf("1 + late", 4);
        faultOf("cut", 0);
        faultOf("stop", 0);
    }

    private static void faultsOfTokens() {
        faultOf("1 + x", 4);
        faultOf("kinds", 0);
        faultOf("kin", 0);
        faultOf("hourprice", 0);
        faultOf("notkind", 0);
        faultOf("1 orx", 2);
        faultOf("Kind", 0);
        faultOf("12345", 0);
        faultOf("1 + 00001", 4);
        faultOf("1 2 12345", 2);
        faultOf("1 2 ?", 2);
        faultOf("1 ? 2", 2);
        faultOf("1 / 2", 2);
        faultOf("1 > 2", 2);
        faultOf("1\t+ 2", 1);
        faultOf("1\r+ 2", 1);
        faultOf("1 + " + (char) 0, 4);
        faultOf("1 + " + (char) 255, 4);
        faultOf("1 + " + (char) 225, 4);
        faultOf("1 + `", 4);
        faultOf("1 + {", 4);
        faultOf("1 + :", 4);
        faultOf("1 + /", 4);
        faultOf("a", 0);
        faultOf("zzzz", 0);
        faultOf("kindz", 0);
        faultOf("akind", 0);
        fault(";".repeat(160), 0);
        fault("late 0" + "+".repeat(154), 7);
        fault("late 0;cut 0;stop 0;" + " ".repeat(139) + ";", 159);
        fault("lat 1;cut 0;stop 0;", 0);
        fault("latecut 1;cut 0;stop 0;", 0);
        fault("late 1;cut 0;stop 0;?", 20);
        fault("late 1;cut 0;stop 0; 12345", 21);
    }

    private static void faultsOfDepth() {
        goodOf("(((((1)))))");
        faultOf("((((((1))))))", 5);
        goodOf("not not not not not 1");
        faultOf("not not not not not not 1", 20);
        goodOf("-----1");
        faultOf("------1", 5);
        goodOf("not(not(-1))");
        faultOf("not(not(-(1)))", 9);
        goodOf("not -(-(1))");
        faultOf("not -(-((1)))", 8);
        goodOf("(((((1)))))+(((((1)))))");
        goodOf("-----1 - -----1");
        goodOf("not not not not not 1 and not not not not not 1");
        goodOf("not not not not not 1 < 2");
        faultOf("not not not not not 1 < -2", 24);
        faultOf("not not not not not (1)", 20);
        faultOf("not not not not not -1", 20);
        goodOf("not not not not -1 - -1");
        goodOf("((((not 1 or not 1) and not 1))) or (((((1)))))");
        faultOf("((((not 1 or not (1)) and not 1)))", 17);
        goodOf("((((1) + (1)) - (1)) * -(-1)) = -1");
        faultOf("((((( 1 - -1", 10);
        goodOf("1-1-1-1-1-1-1-1-1-1");
    }

    private static void wellFormed() {
        good("late0;cut0;stop0;");
        good("late 0;cut 0;stop 0; \n ");
        good("\n\nlate\n0\n;\ncut\n0\n;\nstop\n0\n;");
        goodOf("9999");
        goodOf("0000");
        goodOf("1or 2");
        goodOf("1 or2");
        goodOf("not 1 < 2");
        goodOf("1 < 2 and 2 < 3 or not 3 = 4");
        goodOf("2and 3");
        goodOf("kind*hour*price*amount*paid*due");
        StringBuilder longest = new StringBuilder("late 0;cut 0;stop 0");
        while (longest.length() < 157) {
            longest.append("+1");
        }
        while (longest.length() < 159) {
            longest.append(' ');
        }
        good(longest.append(';').toString());
    }

    /** What was read ahead of a fault leaves nothing behind. */
    private static void afterFaults() {
        RailCargo x = new RailCargo();
        x.cargo(1, 0);
        x.sale(0, 1, 1, 0, 0);
        for (int i = 0; i < 4; i++) {
            Due.is("a long one with a fault", Due.text(x, "late 1" + "+1".repeat(70) + ";"), -247);
        }
        for (int text = 1; text < 6; text++) {
            String late = "late " + text + "+1".repeat(60) + ";cut -1;stop 1;";
            Due.is("a long one", Due.text(x, late), text);
            x.force(text);
            Due.is("late by it", x.owes(0, 0), text + 60);
        }
    }

    private static void force() {
        RailCargo x = new RailCargo();
        Due.is("TEXT 0 itself", x.force(0), 0);
        Due.is("none such", x.force(1), -2);
        Due.text(x, "late 5;cut 0;stop 0;");
        Due.text(x, "late 6;cut 0;stop 0;");
        Due.is("0 was", x.force(1), 0);
        Due.is("1 was", x.force(2), 1);
        int[] bad = {3, -1, 5, 6, MIN, MAX};
        for (int text : bad) {
            Due.is("force " + text, x.force(text), -2);
        }
        Due.is("the rule", x.count(4), 2);
        x.cargo(1, 0);
        x.sale(0, 1, 1, 100, 0);
        Due.is("by text 2", x.owes(0, 0), 106);
        x.force(1);
        Due.is("by text 1", x.owes(0, 0), 105);
        x.force(0);
        Due.is("by text 0", x.owes(0, 0), 100);
    }

    /** What late E comes to, by a sale of kind 3, at price 7 for 11 (due 77), hour 100, paid 20, at hour 130. */
    static void late(String e, int want) {
        RailCargo x = new RailCargo();
        x.cargo(50, 0);
        x.sale(3, 1, 11, 7, 100);
        x.pay(0, 20);
        Due.is("[" + e + "] is a text", Due.text(x, "late " + e + ";cut 0;stop 0;"), 1);
        x.force(1);
        Due.is("late " + e, x.owes(0, 130) - 77 + 20, want);
    }

    private static void names() {
        late("kind", 3);
        late("hour", 30);
        late("price", 7);
        late("amount", 11);
        late("paid", 20);
        late("due", 77);
    }

    private static void values() {
        late("1234", 1234);
        late("0012", 12);
        late("2+3*4", 14);
        late("(2+3)*4", 20);
        late("20-5-3", 12);
        late("20-(5-3)", 18);
        late("20--5", 25);
        late("-5+20", 15);
        late("-5*-3", 15);
        late("-(2-9)", 7);
        late("3*-2+10", 4);
        late("5<6", 1);
        late("6<6", 0);
        late("7<6", 0);
        late("-1<0", 1);
        late("6=6", 1);
        late("6=5", 0);
        late("1+1<3*1", 1);
        late("2=1+1", 1);
        late("not 0", 1);
        late("not 7", 0);
        late("not not 7", 1);
        late("not 1<0", 1);
        late("not 0+5", 0);
        late("0 or 0", 0);
        late("0 or 7", 1);
        late("7 or 0", 1);
        late("7 or 8", 1);
        late("-1 or 0", 1);
        late("7 and 8", 1);
        late("7 and 0", 0);
        late("0 and 7", 0);
        late("0 and 0", 0);
        late("1 or 0 and 0", 1);
        late("(1 or 0) and 0", 0);
        late("0 and 0 or 1", 1);
        late("not 0 and 0", 0);
        late("not (0 and 0)", 1);
        late("(3<4)+(4<5)+10", 12);
        late("(not 0)*5", 5);
        late("9999*9999*9999*9999<0", 9999 * 9999 * 9999 * 9999 < 0 ? 1 : 0);
        late("9999*9999*9999 = 9999*9999*9999", 1);
        late("9999*9999*30 < 0", 1);
        late("-9999*9999*22-2 < 0", 0);
    }

    private static void bounds() {
        late("9999", 9999);
        late("9999+1", 9999);
        late("9999*9", 9999);
        late("0-1", 0);
        late("-9999*9999", 0);
        RailCargo x = new RailCargo();
        x.cargo(50, 0);
        x.sale(0, 1, 11, 7, 100);
        x.sale(0, 1, 11, 0, 100);
        Due.text(x, "late 0;cut 76;stop 0;");
        Due.text(x, "late 0;cut 78;stop 0;");
        Due.text(x, "late 0;cut -1;stop 0;");
        Due.text(x, "late 3;cut due;stop 0;");
        int[] want = {77, 1, 0, 77, 3};
        int[] wantOfNothing = {0, 0, 0, 0, 3};
        for (int text = 0; text < 5; text++) {
            x.force(text);
            Due.is("cut by text " + text, x.owes(0, 100), want[text]);
            Due.is("cut of nothing by text " + text, x.owes(1, 100), wantOfNothing[text]);
        }
    }

    private static void owes() {
        RailCargo x = new RailCargo();
        x.cargo(999, 0);
        x.sale(0, 1, 999, 999, 10);
        Due.is("ahead", x.owes(0, 9), 0);
        Due.is("from its hour on", x.owes(0, 10), 998001);
        Due.is("50 hours on", x.owes(0, 60), 998001);
        Due.is("51 hours on", x.owes(0, 61), 998002);
        Due.is("at last", x.owes(0, 999), 998002);
        x.pay(0, 999999);
        Due.is("it gets back", x.owes(0, 10), -1998);
        Due.is("ahead, paid", x.owes(0, 9), 0);
        int[][] none = {{1, 0}, {-1, 0}, {MIN, 0}, {MAX, 0}, {0, -1}, {0, 1000}, {0, MIN}, {0, MAX}};
        for (int[] b : none) {
            Due.is("owes " + b[0] + " " + b[1], x.owes(b[0], b[1]), NO);
        }
    }

    private static void balance() {
        RailCargo x = new RailCargo();
        x.cargo(100, 0);
        x.cargo(100, 5);
        x.sale(0, 1, 10, 10, 10);
        x.sale(1, 12, 10, 12, 20);
        x.sale(0, 151, 3, 5, 30);
        x.pay(2, 20);
        long[][] want = {{9, 0, 0, 0, 0}, {10, 100, -100, 0, 0}, {20, 100, 20, -120, 0}, {30, 100, 25, -120, -5},
            {70, 101, 24, -120, -5}, {71, 101, 25, -121, -5}};
        for (long[] w : want) {
            int hour = (int) w[0];
            Due.is("balance 0 at " + hour, x.balance(0, hour), w[1]);
            Due.is("balance 1 at " + hour, x.balance(1, hour), w[2]);
            Due.is("balance 2 at " + hour, x.balance(2, hour), w[3]);
            Due.is("balance 5 at " + hour, x.balance(5, hour), w[4]);
            Due.is("balance 9 at " + hour, x.balance(9, hour), 0);
        }
        int[][] none = {{10, 0}, {-1, 0}, {MIN, 0}, {MAX, 0}, {0, -1}, {0, 1000}, {0, MIN}, {0, MAX}};
        for (int[] b : none) {
            Due.is("balance " + b[0] + " " + b[1], x.balance(b[0], b[1]), NO);
        }
    }
}
