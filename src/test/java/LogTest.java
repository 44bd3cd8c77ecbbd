/** Promises 18, 19 and 32: logs. */
public final class LogTest {
    private static final int NONE = StolenHours.NONE;

    private LogTest() {
    }

    public static void main(String[] args) {
        facts();
        fitting();
        twoLogs();
        wrongNumbers();
        Check.finish("LogTest");
    }

    private static void facts() {
        StolenHours x = Check.with(2, "gone 5;there 39;gone 0;");
        Check.due("facts", x.fact(0, NONE, 0), 3);
        int[][] want = {{1, 5}, {0, 39}, {1, 0}};
        for (int k = 0; k < 3; k++) {
            for (int what = 0; what < 2; what++) {
                Check.due("fact " + k + " " + what, x.fact(0, k, what), want[k][what]);
            }
            Check.due("fact " + k + " 2", x.fact(0, k, 2), -2);
            Check.due("fact " + k + " -1", x.fact(0, k, -1), -2);
        }
        Check.due("fact NONE 1", x.fact(0, NONE, 1), -2);
        Check.due("fact NONE -1", x.fact(0, NONE, -1), -2);
        Check.due("fact 3", x.fact(0, 3, 0), -2);
        Check.due("fact -2", x.fact(0, -2, 0), -2);
        Check.due("fact of log 1", x.fact(1, NONE, 0), -2);
        Check.due("fact of log -1", x.fact(-1, 0, 0), -2);
    }

    private static void isLog(String text, int[] fits, int[] span, int... codes) {
        StolenHours x = Check.with(2, text);
        for (int what = 0; what < 4; what++) {
            Check.due("fits " + what + " of " + text, x.fits(0, what), fits[what]);
            Check.due("span " + what + " of " + text, x.span(0, what), span[what]);
        }
        for (int k = 0; k < codes.length; k++) {
            Check.due("fits 10 + " + k + " of " + text, x.fits(0, 10 + k), codes[k]);
        }
        Check.due("fits 10 + many of " + text, x.fits(0, 10 + fits[0]), -2);
    }

    private static void fitting() {
        // first 4 or 5, last 9, 10 or 11
        isLog("gone 5;gone 9;there 3;there 12;", new int[] {6, NONE, NONE, 4}, new int[] {5, 8, 5, 32},
            169, 170, 171, 209, 210, 211);
        isLog("gone 5;there 4;there 7;", new int[] {2, 5, NONE, 6}, new int[] {1, 2, 1, 38}, 205, 206);
        isLog("gone 5;there 6;there 3;", new int[] {2, NONE, 5, 4}, new int[] {1, 2, 1, 38}, 165, 205);
        isLog("gone 5;there 4;there 6;", new int[] {1, 5, 5, 0}, new int[] {1, 1, 1, 39}, 205);
        isLog("gone 5;there 5;", new int[] {0, NONE, NONE, NONE}, new int[] {NONE, NONE, NONE, NONE});
        isLog("gone 3;there 10;gone 20;", new int[] {0, NONE, NONE, NONE}, new int[] {NONE, NONE, NONE, NONE});
        isLog("gone 0;gone 39;", new int[] {1, 0, 39, 0}, new int[] {40, 40, 40, 0}, 39);
        isLog("gone 0;", new int[] {40, 0, NONE, 20}, new int[] {1, 40, 1, 0}, 0, 1, 2);
        isLog("gone 39;", new int[] {40, NONE, 39, 19}, new int[] {1, 40, 1, 0}, 39, 79);
        isLog("", new int[] {820, NONE, NONE, 16}, new int[] {1, 40, 0, 0}, 0, 1);
        StolenHours x = Check.with(2, "");
        Check.due("the last that fits", x.fits(0, 829), 1599);
        Check.due("the one of minute 1 first", x.fits(0, 50), 41);
        isLog("there 20;", new int[] {400, NONE, NONE, 9}, new int[] {1, 20, 0, 1}, 0);
        isLog("there 0;there 39;gone 20;gone 20;", new int[] {380, NONE, NONE, 10}, new int[] {1, 38, 1, 2}, 60);
    }

    /** What was asked of one log is nothing to the other. */
    private static void twoLogs() {
        StolenHours x = Check.with(2, "gone 5;there 4;there 6;");
        Check.due("a second log", Check.tell(x, 2, NONE, "gone 3;there 7;"), 1);
        for (int time = 0; time < 2; time++) {
            Check.due("span here", x.span(1, 1), 7);
            Check.due("span there", x.span(0, 1), 1);
            Check.due("fits here", x.fits(1, 0), 16);
            Check.due("fits there", x.fits(0, 0), 1);
            Check.due("sure here", x.fits(1, 1), NONE);
            Check.due("sure there", x.fits(0, 1), 5);
        }
    }

    private static void wrongNumbers() {
        StolenHours x = Check.with(2, "gone 5;there 4;there 6;");
        int[] others = {-1, 4, 5, 9, 11, 1000, Integer.MIN_VALUE, Integer.MAX_VALUE};
        for (int what : others) {
            Check.due("fits " + what, x.fits(0, what), -2);
            Check.due("span " + what, x.span(0, what), NONE);
        }
        for (int log : new int[] {-1, 1, 2, Integer.MAX_VALUE}) {
            Check.due("fits of log " + log, x.fits(log, 0), -2);
            Check.due("span of log " + log, x.span(log, 0), NONE);
        }
        StolenHours none = new StolenHours();
        Check.due("fits of nothing", none.fits(0, 0), -2);
        Check.due("span of nothing", none.span(0, 0), NONE);
    }
}
