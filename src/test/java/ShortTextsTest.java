/** Every short LINE, and every short VALUE in a COLUMN of each kind, is read as the grammar's second telling tells. */
public final class ShortTextsTest {
    private static final Checks C = new Checks("ShortTextsTest");

    public static void main(String[] args) {
        everyText("", " #!%a0\"\\?", 5, "");
        everyText("! 0 0\n", " #!a0", 4, "");
        everyText("% a w\n", " %awg\"", 6, "");
        everyText("a a\n", " a\"%", 6, "");
        for (char kind : "wdtg".toCharArray()) {
            everyText("% c " + kind + "\na b ", "015-.a \"", 4, "");
            everyText("% c " + kind + "\na b ", "05-.", 6, "\n");
            everyText("% c " + kind + "\na b 123", "45-.x", 5, " ");
            everyText("% c " + kind + "\na b -12345", "6.x ", 4, "");
            everyText("% c " + kind + "\na b 1.12", "3.x ", 3, "");
            everyText("% c " + kind + "\na b \"1234567", "8\\\" \t", 4, "");
        }
        C.end();
    }

    /** All texts that these signs, up to so many of them, make between the two ends. */
    private static void everyText(String ahead, String signs, int most, String behind) {
        for (int manner = 0; manner <= 2; manner++) {
            C.asTold(new GraphTexts(), ahead + behind, manner);
        }
        if (most == 0) {
            return;
        }
        for (char sign : signs.toCharArray()) {
            everyText(ahead + sign, signs, most - 1, behind);
        }
    }
}
