/** What the tests have in common: answers that are due, and the feeding of texts. */
final class Due {
    private static int right = 0;
    private static int wrong = 0;
    private static boolean muted = false;

    private Due() {
    }

    static void is(String what, long got, long want) {
        tell(got == want, what + " answered " + got + ", due is " + want);
    }

    static void isNot(String what, long got, long refusal) {
        tell(got != refusal, what + " answered " + got + ", which is not due");
    }

    private static void tell(boolean asDue, String otherwise) {
        if (asDue) {
            right++;
            return;
        }
        wrong++;
        if (!muted) {
            System.out.println(otherwise);
        }
    }

    /** From here on what is wrong is counted alone. */
    static void mute() {
        muted = true;
    }

    static int asked() {
        return right + wrong;
    }

    static int wrong() {
        return wrong;
    }

    /** Feeds a text by eights, as far as there is room, and answers how many bytes the tape has. */
    static int feed(RailCargo x, String text) {
        int size = x.count(3);
        for (int i = 0; i < text.length(); i += 8) {
            int n = Math.min(8, text.length() - i);
            long bytes = 0;
            for (int k = 0; k < n; k++) {
                bytes |= (text.charAt(i + k) & 255L) << (8 * k);
            }
            size = x.feed(n, bytes);
        }
        return size;
    }

    static int text(RailCargo x, String text) {
        feed(x, text);
        return x.text();
    }

    static void end(String name) {
        System.out.println(name + ": " + right + " answers as due, " + wrong + " not");
        if (wrong != 0 || right == 0) {
            System.exit(1);
        }
    }
}
