/** Promises 16, 17 and 30: tins and waiting. */
public final class TinTest {
    private static final int NONE = StolenHours.NONE;

    private TinTest() {
    }

    public static void main(String[] args) {
        tins();
        tinsByTrying();
        waits();
        enough();
        Check.finish("TinTest");
    }

    private static void isTin(int n, int k, int p, long over, long under) {
        StolenHours x = new StolenHours();
        String name = "tin " + n + " " + k + " " + p;
        Check.due(name, x.tin(n, k, p, false), over);
        Check.due(name + " under", x.tin(n, k, p, true), under);
    }

    private static void tins() {
        isTin(2, 1, 5, 3, 4);
        isTin(3, 2, 1, 243, 250);
        isTin(0, 0, 5, 1, 1);
        isTin(0, 1, 5, 0, 1);
        isTin(5, 6, 3, 0, 1);
        isTin(4, 2, 0, 1, 1);
        isTin(4, 4, 0, 1, 1);
        isTin(4, 1, 10, 0, 1);
        isTin(4, 0, 10, 1, 1);
        isTin(9, 9, 1, 387420489, 1000000000);
        isTin(9, 9, 9, 1, 1000000000);
        isTin(1, 1, 3, 7, 10);
        int[][] wrong = {{-1, 0, 0}, {10, 0, 0}, {0, -1, 0}, {0, 10, 0}, {0, 0, -1}, {0, 0, 11},
            {Integer.MIN_VALUE, 0, 0}, {0, Integer.MAX_VALUE, 0}, {0, 0, Integer.MAX_VALUE}};
        for (int[] numbers : wrong) {
            isTin(numbers[0], numbers[1], numbers[2], NONE, NONE);
        }
    }

    /** Goes through all ways in which each minute is stolen or not. */
    private static void tinsByTrying() {
        for (int n = 0; n <= 9; n++) {
            for (int p = 0; p <= 10; p++) {
                for (int k = 0; k <= 9; k++) {
                    java.math.BigInteger ways = java.math.BigInteger.ZERO;
                    java.math.BigInteger all = java.math.BigInteger.TEN.pow(n);
                    for (int stolen = 0; stolen < 1 << n; stolen++) {
                        int many = Integer.bitCount(stolen);
                        if (n - many >= k) {
                            ways = ways.add(java.math.BigInteger.valueOf(p).pow(many)
                                .multiply(java.math.BigInteger.valueOf(10 - p).pow(n - many)));
                        }
                    }
                    java.math.BigInteger divisor = ways.gcd(all);
                    isTin(n, k, p, ways.divide(divisor).longValue(), all.divide(divisor).longValue());
                }
            }
        }
    }

    private static void isWait(int n, long over, long under, int price) {
        StolenHours x = new StolenHours();
        Check.due("waits " + n, x.waits(n, 0), over);
        Check.due("waits under " + n, x.waits(n, 1), under);
        Check.due("waits price " + n, x.waits(n, 2), price);
    }

    private static void waits() {
        isWait(1, 9, 2, 0);
        isWait(2, 23, 4, 5);
        isWait(3, 129, 20, 6);
        isWait(4, 1383, 200, 7);
        // 0.7 of 6.915 and 2.4 are 7.2405; 0.8 of it and 1.7 are 7.4924; and so on
        isWait(5, 14481, 2000, 7);
        isWait(6, 18731, 2500, 8);
        isWait(7, 48087, 6250, 8);
        isWait(8, 245473, 31250, 8);
        isWait(9, 1247517, 156250, 8);
        StolenHours x = new StolenHours();
        for (int what = 0; what < 3; what++) {
            Check.due("waits 0", x.waits(0, what), NONE);
            Check.due("waits 10", x.waits(10, what), NONE);
            Check.due("waits -1", x.waits(-1, what), NONE);
        }
        Check.due("waits what -1", x.waits(1, -1), NONE);
        Check.due("waits what 3", x.waits(1, 3), NONE);
    }

    private static void enough() {
        int[][] want = {{1, 0, 1}, {1, 1, 1}, {1, 2, 2}, {1, 5, 4}, {1, 7, 7}, {1, 8, NONE}, {1, 10, NONE}, {2, 1, 3},
            {2, 0, 2}, {9, 0, 9}, {9, 1, NONE}, {0, 0, NONE}, {10, 0, NONE}, {-1, 0, NONE}, {1, -1, NONE}, {1, 11, NONE}};
        StolenHours x = new StolenHours();
        for (int[] numbers : want) {
            Check.due("enough " + numbers[0] + " " + numbers[1], x.enough(numbers[0], numbers[1]), numbers[2]);
        }
        for (int k = 1; k <= 9; k++) {
            x = new StolenHours();
            Check.due("enough " + k + " -1", x.enough(k, -1), NONE);
            Check.due("enough " + k + " 11", x.enough(k, 11), NONE);
            Check.due("enough " + k + " most", x.enough(k, Integer.MAX_VALUE), NONE);
            for (int p = 0; p <= 10; p++) {
                int least = NONE;
                for (int n = 9; n >= 0; n--) {
                    least = x.tin(n, k, p, false) * 10 >= x.tin(n, k, p, true) * 9 ? n : least;
                }
                Check.due("enough " + k + " " + p, x.enough(k, p), least);
            }
        }
    }
}
