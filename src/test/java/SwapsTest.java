/** Promises 20 and 33: swaps. */
public final class SwapsTest {
    private static final int NONE = StolenHours.NONE;

    private SwapsTest() {
    }

    public static void main(String[] args) {
        toldSwaps();
        ends();
        happy();
        twoSwaps();
        wrongNumbers();
        Check.finish("SwapsTest");
    }

    private static void isSwap(String text, int... want) {
        StolenHours x = Check.with(3, text);
        for (int i = 0; i < want.length; i += 2) {
            Check.due("swap " + want[i] + " of " + text, x.swap(0, want[i]), want[i + 1]);
        }
    }

    private static void toldSwaps() {
        isSwap("", 0, 3, 100, 0, 101, 0, 102, 0, 103, -1000, 106, 0, 114, 0, 115, -1000, 118, -1000);
        isSwap("hands 2;worth 0 1 4;worth 1 0 6;worth 0 1 5;worth 1 1 9;", 0, 2, 100, 0, 101, 5, 106, 6, 107, 9,
            102, -1000, 112, -1000);
        isSwap("worth 5 4 9;worth 4 5 8;hands 2;hands 6;", 0, 6, 134, 9, 129, 8, 135, 0, 136, -1000);
    }

    private static void ends() {
        isSwap("", 1, 0, 2, 3, 10, 0, 11, 1, 12, 2, 13, -1000, 20, 0, 21, 1, 22, 2, 23, -1000);
        isSwap("hands 2;worth 0 1 1;worth 1 0 1;", 1, 2, 2, 1, 10, 1, 11, 0, 20, 0, 21, 0);
        isSwap("worth 0 1 2;worth 1 2 3;worth 2 0 4;", 1, 9, 2, 1, 10, 1, 11, 2, 12, 0, 20, 0, 21, 0, 22, 0);
        // 0 and 1 swap first; 2 wanted 0's, takes 3's then
        isSwap("hands 4;worth 0 1 9;worth 1 0 4;worth 2 0 8;worth 2 3 5;worth 2 2 1;worth 3 2 3;", 1, 20, 2, 2, 10, 1,
            11, 0, 12, 3, 13, 2, 20, 0, 21, 0, 22, 1, 23, 1);
        // a hand that wants its own most keeps it
        isSwap("worth 0 0 5;worth 1 0 9;worth 2 1 1;worth 1 2 1;", 1, 2, 2, 2, 10, 0, 11, 2, 12, 1, 20, 0, 21, 1, 22, 1);
        // of several the least: 2 points to 0, not to itself, and 0 to 2
        isSwap("worth 2 0 3;worth 2 2 3;worth 0 2 1;worth 1 1 1;", 10, 2, 11, 1, 12, 0, 2, 1, 1, 1);
        // two rings in one round
        isSwap("hands 6;worth 0 1 1;worth 1 0 1;worth 2 3 1;worth 3 4 1;worth 4 2 1;worth 5 2 1;worth 5 5 1;", 2, 2,
            10, 1, 11, 0, 12, 3, 13, 4, 14, 2, 15, 5, 20, 0, 22, 0, 24, 0, 25, 1, 1, 5);
    }

    private static void isHappy(String text, int bits, int pairs, int envy) {
        StolenHours x = Check.with(3, text);
        Check.due("happy of " + text, x.happy(0, 0), bits);
        Check.due("pairs of " + text, x.happy(0, 1), pairs);
        Check.due("envy of " + text, x.happy(0, 2), envy);
    }

    private static void happy() {
        isHappy("", 7, 0, 0);
        isHappy("hands 6;", 63, 0, 0);
        isHappy("hands 4;worth 0 1 9;worth 1 0 4;worth 2 0 8;worth 2 3 5;worth 2 2 1;worth 3 2 3;", 11, 2, 1);
        isHappy("worth 0 0 5;worth 1 0 9;worth 2 1 1;worth 1 2 1;", 5, 1, 1);
        isHappy("worth 0 1 2;worth 1 2 3;worth 2 0 4;", 7, 0, 0);
        // as much as one's own is no reason to swap
        isHappy("hands 2;worth 0 1 3;worth 0 0 3;worth 1 0 3;", 1, 0, 1);
        isHappy("hands 2;worth 0 1 3;worth 0 0 2;worth 1 0 3;worth 1 1 3;", 3, 0, 0);
        isHappy("hands 2;worth 0 0 9;worth 1 0 3;worth 1 1 2;", 1, 0, 1);
        isHappy("hands 3;worth 0 0 1;worth 1 0 1;worth 2 0 1;", 1, 0, 2);
        isHappy("hands 3;worth 0 1 9;worth 0 2 8;worth 1 0 9;worth 1 2 8;worth 2 0 9;worth 2 1 8;", 3, 3, 2);
    }

    /** What was asked of one swap is nothing to the other. */
    private static void twoSwaps() {
        StolenHours x = Check.with(3, "hands 2;worth 0 1 1;worth 1 0 2;");
        Check.due("second swaps", Check.tell(x, 3, NONE, "hands 4;worth 3 0 7;"), 1);
        for (int time = 0; time < 2; time++) {
            Check.due("gain there", x.swap(0, 1), 3);
            Check.due("gain here", x.swap(1, 1), 0);
            Check.due("rounds there", x.swap(0, 2), 1);
            Check.due("rounds here", x.swap(1, 2), 4);
            Check.due("happy there", x.happy(0, 0), 3);
            Check.due("happy here", x.happy(1, 0), 7);
            Check.due("envy here", x.happy(1, 2), 1);
            Check.due("envy there", x.happy(0, 2), 0);
        }
    }

    private static void wrongNumbers() {
        StolenHours x = Check.with(3, "hands 6;");
        for (int what : new int[] {-1, 3, 9, 16, 19, 26, 99, 136, Integer.MIN_VALUE, Integer.MAX_VALUE}) {
            Check.due("swap " + what, x.swap(0, what), -1000);
        }
        for (int what : new int[] {-1, 3, Integer.MIN_VALUE, Integer.MAX_VALUE}) {
            Check.due("happy " + what, x.happy(0, what), NONE);
        }
        for (int swaps : new int[] {-1, 1, 2}) {
            Check.due("swap of " + swaps, x.swap(swaps, 0), -1000);
            Check.due("happy of " + swaps, x.happy(swaps, 0), NONE);
        }
        StolenHours none = new StolenHours();
        Check.due("swap of nothing", none.swap(0, 0), -1000);
        Check.due("happy of nothing", none.happy(0, 0), NONE);
    }
}
