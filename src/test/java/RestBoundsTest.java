/**
 * Promises 16 to 20, 30, 32 and 33 (tins, waiting, logs, swaps) where they tell a bound or a refusal: a method for each
 * such sentence.
 */
public final class RestBoundsTest {
    private static final int NONE = StolenHours.NONE;

    private RestBoundsTest() {
    }

    public static void main(String[] args) {
        tinOtherNumbers();
        tinOfNothing();
        tinOfAll();
        tinLeastTerms();
        waitsAnotherN();
        waitsAnotherWhat();
        waitsLastDay();
        waitsNoLessThanWaiting();
        enoughOtherNumbers();
        enoughNotByNine();
        enoughNineOfTen();
        factOfAnother();
        fitsAnotherWhat();
        fitsOneToForty();
        fitsNothing();
        sureIfItIsOne();
        seekOfSeveral();
        spanNone();
        spanOfAllThatFit();
        swapAnotherWhat();
        endsOfOneRound();
        endsOfManyRounds();
        endsOfSeveralTheLeast();
        endsOfRings();
        gainOfNothingAndMost();
        happyAnotherWhat();
        happyNoneAndAll();
        pairsAndEnvy();
        Check.finish("RestBoundsTest");
    }

    private static void isTin(int n, int k, int p, long over, long under) {
        StolenHours x = new StolenHours();
        String name = "tin " + n + " " + k + " " + p;
        Check.due(name, x.tin(n, k, p, false), over);
        Check.due(name + ", under", x.tin(n, k, p, true), under);
    }

    // Promise 16: "n, 0 .. 9, k, 0 .. 9, p, 0 .. 10"; "NONE: other numbers".
    private static void tinOtherNumbers() {
        for (int number : Check.outside(0, 9)) {
            for (int good : new int[] {0, 5, 9}) {
                isTin(number, good, good, NONE, NONE);
                isTin(good, number, good, NONE, NONE);
                isTin(number, number, good, NONE, NONE);
            }
        }
        for (int number : Check.outside(0, 10)) {
            isTin(0, 0, number, NONE, NONE);
            isTin(9, 9, number, NONE, NONE);
        }
        for (int n = 0; n <= 9; n++) {
            for (int k = 0; k <= 9; k++) {
                for (int p = 0; p <= 10; p++) {
                    StolenHours x = new StolenHours();
                    Check.due("tin is answered", x.tin(n, k, p, false) >= 0, true);
                    Check.due("tin, under, is answered", x.tin(n, k, p, true) >= 1, true);
                }
            }
        }
    }

    // Nothing kept, nothing wanted, more wanted than kept.
    private static void tinOfNothing() {
        for (int p = 0; p <= 10; p++) {
            for (int n = 0; n <= 9; n++) {
                isTin(n, 0, p, 1, 1);
                for (int k = n + 1; k <= 9; k++) {
                    isTin(n, k, p, 0, 1);
                }
            }
        }
    }

    // None is stolen (p 0), each is stolen (p 10), one below and one above that.
    private static void tinOfAll() {
        for (int n = 1; n <= 9; n++) {
            for (int k = 1; k <= n; k++) {
                isTin(n, k, 0, 1, 1);
                isTin(n, k, 10, 0, 1);
            }
        }
        isTin(1, 1, 1, 9, 10);
        isTin(1, 1, 9, 1, 10);
        isTin(9, 9, 1, 387420489, 1000000000);
        isTin(9, 1, 9, 612579511, 1000000000);
        isTin(9, 1, 1, 999999999, 1000000000);
        isTin(9, 9, 9, 1, 1000000000);
    }

    // "a fraction in least terms".
    private static void tinLeastTerms() {
        isTin(1, 1, 5, 1, 2);
        isTin(1, 1, 2, 4, 5);
        isTin(2, 2, 5, 1, 4);
        isTin(2, 1, 5, 3, 4);
        isTin(3, 2, 5, 1, 2);
        isTin(9, 5, 5, 1, 2);
        isTin(9, 9, 5, 1, 512);
        isTin(9, 1, 5, 511, 512);
        isTin(2, 1, 2, 24, 25);
        isTin(9, 9, 8, 1, 1953125);
    }

    private static void isWait(int n, long over, long under, long price) {
        StolenHours x = new StolenHours();
        Check.due("waits " + n, x.waits(n, 0), over);
        Check.due("waits " + n + ", under", x.waits(n, 1), under);
        Check.due("waits " + n + ", price", x.waits(n, 2), price);
    }

    // Promise 17: "n, 1 .. 9"; "NONE: another n".
    private static void waitsAnotherN() {
        for (int n : Check.outside(1, 9)) {
            isWait(n, NONE, NONE, NONE);
        }
        isWait(0, NONE, NONE, NONE);
        isWait(1, 9, 2, 0);
        isWait(9, 1247517, 156250, 8);
    }

    // Promise 17: "or for another what".
    private static void waitsAnotherWhat() {
        StolenHours x = new StolenHours();
        for (int n = 1; n <= 9; n++) {
            for (int what : Check.outside(0, 2)) {
                Check.due("waits " + n + " what " + what, x.waits(n, what), NONE);
            }
        }
    }

    // "the last day's is taken": of one day the mean of 0 to 9, whatever is offered.
    private static void waitsLastDay() {
        isWait(1, 9, 2, 0);
    }

    // "one takes what is no less than waiting": from the least PRICE that is not below the mean of the days left.
    private static void waitsNoLessThanWaiting() {
        // 4.5 is waited for: 5 is taken, 4 is not; five of ten wait: (5 * 4.5 + 35) / 10
        isWait(2, 23, 4, 5);
        // 5.75: 6 is taken; (6 * 5.75 + 30) / 10
        isWait(3, 129, 20, 6);
        // 6.45: 7 is taken; (7 * 6.45 + 24) / 10
        isWait(4, 1383, 200, 7);
        // 6.915: still 7
        isWait(5, 14481, 2000, 7);
        // 7.2405: 8 is taken; (8 * 7.2405 + 17) / 10
        isWait(6, 18731, 2500, 8);
        isWait(7, 48087, 6250, 8);
        isWait(8, 245473, 31250, 8);
    }

    // Promise 30: "k, 1 .. 9, p, 0 .. 10"; "or other numbers".
    private static void enoughOtherNumbers() {
        StolenHours x = new StolenHours();
        for (int p = 0; p <= 10; p++) {
            for (int k : Check.outside(1, 9)) {
                Check.due("enough " + k + " " + p, x.enough(k, p), NONE);
            }
            Check.due("enough 0 " + p, x.enough(0, p), NONE);
        }
        for (int k = 1; k <= 9; k++) {
            for (int p : Check.outside(0, 10)) {
                Check.due("enough " + k + " " + p, x.enough(k, p), NONE);
            }
            Check.due("enough " + k + " 0", x.enough(k, 0), k);
            Check.due("enough " + k + " 10", x.enough(k, 10), NONE);
        }
    }

    // "9 at most"; "NONE: not by 9".
    private static void enoughNotByNine() {
        StolenHours x = new StolenHours();
        // of 9, one stolen of ten each: 8 or more are left by 0.775, 7 or more by 0.947
        Check.due("enough 9 1", x.enough(9, 1), NONE);
        Check.due("enough 8 1", x.enough(8, 1), NONE);
        Check.due("enough 7 1", x.enough(7, 1), 9);
        // of 8, 6 or more are left by 0.962; of 7 by 0.850
        Check.due("enough 6 1", x.enough(6, 1), 8);
        // 0.7 to the 6th is 0.118, to the 7th 0.082
        Check.due("enough 1 7", x.enough(1, 7), 7);
        Check.due("enough 1 8", x.enough(1, 8), NONE);
        Check.due("enough 1 9", x.enough(1, 9), NONE);
    }

    // "by nine of ten or more": just nine of ten are enough.
    private static void enoughNineOfTen() {
        StolenHours x = new StolenHours();
        Check.due("enough 1 0", x.enough(1, 0), 1);
        Check.due("enough 1 1, by just nine of ten", x.enough(1, 1), 1);
        Check.due("enough 1 2", x.enough(1, 2), 2);
        Check.due("enough 1 3", x.enough(1, 3), 2);
        Check.due("enough 1 4", x.enough(1, 4), 3);
        Check.due("enough 1 5", x.enough(1, 5), 4);
        Check.due("enough 1 6", x.enough(1, 6), 5);
        Check.due("enough 2 1", x.enough(2, 1), 3);
        // 0.896 of 3 isn't enough, 0.9728 of 4 is
        Check.due("enough 2 2", x.enough(2, 2), 4);
    }

    // Promise 18: "-2: there is none such (of either), or for another what".
    private static void factOfAnother() {
        for (int many = 0; many <= 8; many++) {
            StolenHours x = Check.with(2, Check.times("gone 39;there 0;", 4).substring(0, 8 * many));
            Check.due("facts", x.fact(0, NONE, 0), many);
            for (int what : Check.outside(0, 0)) {
                Check.due("facts " + what, x.fact(0, NONE, what), -2);
            }
            for (int k : Check.outside(-1, many - 1)) {
                Check.due("fact " + k + " of " + many, x.fact(0, k, 0), -2);
                Check.due("fact " + k + " 1 of " + many, x.fact(0, k, 1), -2);
            }
            for (int k = 0; k < many; k++) {
                Check.due("fact " + k, x.fact(0, k, 0), k % 2 == 0 ? 1 : 0);
                Check.due("fact " + k + " 1", x.fact(0, k, 1), k % 2 == 0 ? 39 : 0);
                for (int what : Check.outside(0, 1)) {
                    Check.due("fact " + k + " " + what, x.fact(0, k, what), -2);
                }
            }
        }
        for (int logs = 0; logs <= 2; logs++) {
            StolenHours x = new StolenHours();
            for (int i = 0; i < logs; i++) {
                Check.tell(x, 2, NONE, "gone 3;");
            }
            for (int log : Check.outside(0, logs - 1)) {
                Check.due("facts of log " + log, x.fact(log, NONE, 0), -2);
                Check.due("fact of log " + log, x.fact(log, 0, 1), -2);
                Check.due("fits of log " + log, x.fits(log, 0), -2);
                Check.due("the first that fits of log " + log, x.fits(log, 10), -2);
                Check.due("span of log " + log, x.span(log, 0), NONE);
            }
            for (int log = 0; log < logs; log++) {
                Check.due("facts of log " + log, x.fact(log, NONE, 0), 1);
                Check.due("fits of log " + log, x.fits(log, 0), 4 * 37);
                Check.due("span of log " + log, x.span(log, 0), 1);
            }
        }
    }

    // Promise 19: "or for another what": 4 to 9, below 0, behind the last that fits.
    private static void fitsAnotherWhat() {
        String[] logs = {"", "gone 0;", "gone 39;", "gone 0;gone 39;", "gone 5;there 5;", "gone 5;there 3;"};
        int[] many = {820, 40, 40, 1, 0, 70};
        for (int i = 0; i < logs.length; i++) {
            StolenHours x = Check.with(2, logs[i]);
            for (int what : Check.outside(0, 9 + many[i])) {
                Check.due("fits " + what + " of " + logs[i], x.fits(0, what), -2);
            }
            for (int what = 4; what <= 9; what++) {
                Check.due("fits " + what + " of " + logs[i], x.fits(0, what), -2);
            }
            Check.due("fits of " + logs[i], x.fits(0, 0), many[i]);
            for (int k = 0; k < many[i]; k += Math.max(1, many[i] / 20)) {
                Check.due("fits 10 + " + k + " of " + logs[i] + " is there", x.fits(0, 10 + k) != -2, true);
            }
            Check.due("the last of " + logs[i] + " is there", x.fits(0, 9 + many[i]) != -2, many[i] > 0);
        }
    }

    // "a row of MINUTES, one behind the other, 1 .. 40 of them, of 40 in all"; "40 times the first, and the last";
    // "the k-th, by numbers".
    private static void fitsOneToForty() {
        int k = 0;
        for (int first = 0; first < 40; first++) {
            StolenHours x = Check.with(2, "");
            for (int last = first; last < 40; last++) {
                Check.due("row " + k, x.fits(0, 10 + k), 40 * first + last);
                k++;
            }
        }
        Check.due("all rows", Check.with(2, "").fits(0, 0), k);
        // one minute alone
        for (int m = 0; m < 40; m++) {
            String log = "gone " + m + ";" + (m > 0 ? "there " + (m - 1) + ";" : "") + (m < 39 ? "there " + (m + 1) + ";" : "");
            StolenHours x = Check.with(2, log);
            Check.due("fits of " + log, x.fits(0, 0), 1);
            Check.due("the one of " + log, x.fits(0, 10), 41 * m);
            Check.due("its first", x.fits(0, 1), m);
            Check.due("its last", x.fits(0, 2), m);
        }
        // all forty
        StolenHours all = Check.with(2, "gone 0;gone 39;");
        Check.due("all forty fit", all.fits(0, 10), 39);
        // "none that is THERE"; "all that are GONE"
        Check.due("some between", Check.with(2, "gone 10;gone 20;").fits(0, 0), 11 * 20);
        Check.due("the first of them", Check.with(2, "gone 10;gone 20;").fits(0, 10), 20);
        Check.due("one there", Check.with(2, "there 10;").fits(0, 0), 55 + 29 * 30 / 2);
        Check.due("one at the front", Check.with(2, "there 0;").fits(0, 10), 41);
        Check.due("one at the end", Check.with(2, "there 39;").fits(0, 0), 780);
    }

    // Promise 19: "NONE: nothing FITS"; promise 32, too.
    private static void fitsNothing() {
        String[] logs = {"gone 5;there 5;", "there 0;gone 0;", "gone 3;there 4;gone 5;", "gone 0;gone 39;there 20;"};
        for (String log : logs) {
            StolenHours x = Check.with(2, log);
            Check.due("fits of " + log, x.fits(0, 0), 0);
            for (int what = 1; what <= 3; what++) {
                Check.due("fits " + what + " of " + log, x.fits(0, what), NONE);
            }
            Check.due("the first of " + log, x.fits(0, 10), -2);
            for (int what = 0; what <= 3; what++) {
                Check.due("span " + what + " of " + log, x.span(0, what), NONE);
            }
        }
    }

    private static void isSure(String log, int first, int last) {
        StolenHours x = Check.with(2, log);
        Check.due("sure of the first, " + log, x.fits(0, 1), first);
        Check.due("sure of the last, " + log, x.fits(0, 2), last);
    }

    // "SURE of the first, of the last: it, if it is one in all"; "(NONE: not one)".
    private static void sureIfItIsOne() {
        isSure("", NONE, NONE);
        isSure("gone 0;", 0, NONE);
        isSure("gone 39;", NONE, 39);
        isSure("gone 1;", NONE, NONE);
        isSure("gone 5;there 4;", 5, NONE);
        isSure("gone 5;there 3;", NONE, NONE);
        isSure("gone 5;there 6;", NONE, 5);
        isSure("gone 5;there 7;", NONE, NONE);
        isSure("gone 5;there 4;there 6;", 5, 5);
        isSure("gone 5;gone 8;there 4;there 9;", 5, 8);
        isSure("gone 1;there 0;there 2;", 1, 1);
        isSure("gone 38;there 39;there 37;", 38, 38);
    }

    // "SEEK: the MINUTE such that ... the greater number ... is least, of several the least".
    private static void seekOfSeveral() {
        // one fits: whichever is looked for tells nothing
        Check.due("seek of one", Check.with(2, "gone 5;there 4;there 6;").fits(0, 3), 0);
        // two fit: 6 is in one of them
        Check.due("seek of two", Check.with(2, "gone 5;there 4;there 7;").fits(0, 3), 6);
        // three fit: 6 is in two, 7 in one
        Check.due("seek of three", Check.with(2, "gone 5;there 4;there 8;").fits(0, 3), 6);
        // four: 7 is in two
        Check.due("seek of four", Check.with(2, "gone 5;there 4;there 9;").fits(0, 3), 7);
        // four by two ends: 4 and 6 are in two each
        Check.due("seek of two ends", Check.with(2, "gone 5;there 3;there 7;").fits(0, 3), 4);
        Check.due("seek at the front", Check.with(2, "gone 1;there 2;").fits(0, 3), 0);
        Check.due("seek at the end", Check.with(2, "gone 38;there 37;").fits(0, 3), 39);
        Check.due("seek of all", Check.with(2, "").fits(0, 3), 16);
    }

    // Promise 32: "NONE: nothing FITS, there is none such, or for another what".
    private static void spanNone() {
        for (String log : new String[] {"", "gone 5;there 4;there 6;", "gone 5;there 5;"}) {
            StolenHours x = Check.with(2, log);
            for (int what : Check.outside(0, 3)) {
                Check.due("span " + what + " of " + log, x.span(0, what), NONE);
            }
        }
    }

    private static void isSpan(String log, int least, int most, int all, int none) {
        StolenHours x = Check.with(2, log);
        int[] want = {least, most, all, none};
        for (int what = 0; what < 4; what++) {
            Check.due("span " + what + " of " + log, x.span(0, what), want[what]);
        }
    }

    // "the least, the most MINUTES that were stolen, of all that FIT; how many MINUTES are among all, among none".
    private static void spanOfAllThatFit() {
        isSpan("", 1, 40, 0, 0);
        isSpan("gone 0;gone 39;", 40, 40, 40, 0);
        isSpan("gone 0;", 1, 40, 1, 0);
        isSpan("there 0;", 1, 39, 0, 1);
        isSpan("gone 0;there 39;", 1, 39, 1, 1);
        isSpan("gone 5;there 4;there 6;", 1, 1, 1, 39);
        isSpan("gone 5;gone 7;there 3;there 9;", 3, 5, 3, 35);
        isSpan("there 10;there 30;", 1, 19, 0, 2);
        isSpan("there 0;there 2;", 1, 37, 0, 2);
    }

    // Promise 20: "-1000: there is none such (of any), or for another what".
    private static void swapAnotherWhat() {
        for (int hands = 2; hands <= 6; hands++) {
            StolenHours x = Check.with(3, "hands " + hands + ";worth 0 0 9;worth " + (hands - 1) + " 0 9;");
            for (int what = -10; what < 200; what++) {
                boolean there = what >= 0 && what < 3 || what >= 10 && what < 10 + hands || what >= 20 && what < 20 + hands;
                there |= what >= 100 && what < 100 + 6 * hands && (what - 100) % 6 < hands;
                Check.due("swap " + what + " of " + hands + " is there", x.swap(0, what) != -1000, there);
            }
            for (int what : Check.outside(-1000, 1000)) {
                Check.due("swap " + what + " of " + hands, x.swap(0, what), -1000);
            }
            Check.due("hands", x.swap(0, 0), hands);
            Check.due("worth to the last", x.swap(0, 100 + 6 * (hands - 1)), 9);
        }
        for (int many = 0; many <= 2; many++) {
            StolenHours x = new StolenHours();
            for (int i = 0; i < many; i++) {
                Check.tell(x, 3, NONE, "");
            }
            for (int swaps : Check.outside(0, many - 1)) {
                for (int what : new int[] {0, 1, 2, 10, 20, 100}) {
                    Check.due("swap " + what + " of swaps " + swaps, x.swap(swaps, what), -1000);
                }
                for (int what = 0; what < 3; what++) {
                    Check.due("happy " + what + " of swaps " + swaps, x.happy(swaps, what), NONE);
                }
            }
            for (int swaps = 0; swaps < many; swaps++) {
                Check.due("hands of swaps " + swaps, x.swap(swaps, 0), 3);
                Check.due("happy of swaps " + swaps, x.happy(swaps, 0), 7);
            }
        }
    }

    /** That each has whose minute, and when it went: two rows of as many as there are hands. */
    private static void areEnds(String text, int gain, int[] gets, int[] rounds) {
        StolenHours x = Check.with(3, text);
        int most = 0;
        for (int h = 0; h < gets.length; h++) {
            Check.due("whose minute " + h + " has of " + text, x.swap(0, 10 + h), gets[h]);
            Check.due("round of " + h + " of " + text, x.swap(0, 20 + h), rounds[h]);
            most = Math.max(most, rounds[h] + 1);
        }
        Check.due("hands of " + text, x.swap(0, 0), gets.length);
        Check.due("gain of " + text, x.swap(0, 1), gain);
        Check.due("rounds of " + text, x.swap(0, 2), most);
    }

    // One round: all go at once, from 0 on.
    private static void endsOfOneRound() {
        for (int hands = 2; hands <= 6; hands++) {
            StringBuilder own = new StringBuilder("hands " + hands + ";");
            StringBuilder ring = new StringBuilder("hands " + hands + ";");
            int[] same = new int[hands];
            int[] next = new int[hands];
            for (int h = 0; h < hands; h++) {
                same[h] = h;
                next[h] = (h + 1) % hands;
                own.append("worth ").append(h).append(" ").append(h).append(" 9;");
                ring.append("worth ").append(h).append(" ").append(next[h]).append(" 9;");
            }
            areEnds(own.toString(), 0, same, new int[hands]);
            areEnds(ring.toString(), 9 * hands, next, new int[hands]);
        }
    }

    // "again and again": as many rounds as there are hands, when each wants the first one that is still there.
    private static void endsOfManyRounds() {
        for (int hands = 2; hands <= 6; hands++) {
            int[] row = new int[hands];
            StringBuilder text = new StringBuilder("hands " + hands + ";");
            for (int h = 0; h < hands; h++) {
                row[h] = h;
                for (int other = 0; other < hands; other++) {
                    text.append("worth ").append(h).append(" ").append(other).append(" ").append(9 - other).append(";");
                }
            }
            areEnds(text.toString(), 0, row, row);
            areEnds("hands " + hands + ";", 0, row, row);
        }
    }

    // "(itself, too) whose MINUTE is WORTH most to it, of several the least".
    private static void endsOfSeveralTheLeast() {
        // 1 would as soon keep its own, but points to 0, whose own is worth most to it
        areEnds("hands 2;worth 0 0 5;worth 1 0 5;worth 1 1 5;", 0, new int[] {0, 1}, new int[] {0, 1});
        areEnds("hands 2;worth 0 1 5;worth 1 0 5;worth 1 1 5;", 5, new int[] {1, 0}, new int[] {0, 0});
        areEnds("hands 2;worth 0 1 5;worth 0 0 5;worth 1 0 5;", 0, new int[] {0, 1}, new int[] {0, 1});
        areEnds("hands 3;worth 0 2 5;worth 0 1 5;worth 1 0 1;worth 2 0 1;", 6, new int[] {1, 0, 2}, new int[] {0, 0, 1});
        areEnds("hands 2;worth 0 1 5;worth 1 0 5;worth 1 1 6;", 0, new int[] {0, 1}, new int[] {1, 0});
    }

    // "all that point round in rings have what they point to, and go".
    private static void endsOfRings() {
        areEnds("hands 6;worth 0 5 1;worth 5 0 1;worth 1 4 1;worth 4 1 1;worth 2 3 1;worth 3 2 1;", 6,
            new int[] {5, 4, 3, 2, 1, 0}, new int[6]);
        areEnds("hands 6;worth 0 1 1;worth 1 2 1;worth 2 0 1;worth 3 4 1;worth 4 5 1;worth 5 3 1;", 6,
            new int[] {1, 2, 0, 4, 5, 3}, new int[6]);
        // who points into a ring, but is in none, waits: 3 wanted 0's, then 4's, and 4 its
        areEnds("hands 5;worth 0 1 9;worth 1 0 9;worth 2 1 9;worth 2 2 8;worth 3 0 9;worth 3 4 8;worth 4 0 9;worth 4 3 8;", 34,
            new int[] {1, 0, 2, 4, 3}, new int[] {0, 0, 1, 1, 1});
        areEnds("hands 4;worth 0 0 9;worth 1 0 9;worth 1 1 8;worth 2 1 9;worth 2 2 8;worth 3 2 9;", 0,
            new int[] {0, 1, 2, 3}, new int[] {0, 1, 2, 3});
    }

    // "what all have is WORTH to them more than their own, together".
    private static void gainOfNothingAndMost() {
        Check.due("gain of nothing", Check.with(3, "").swap(0, 1), 0);
        Check.due("gain of their own", Check.with(3, "worth 0 0 9;worth 1 1 9;worth 2 2 9;").swap(0, 1), 0);
        Check.due("gain less their own", Check.with(3, "hands 2;worth 0 1 9;worth 0 0 4;worth 1 0 3;worth 1 1 2;").swap(0, 1), 6);
    }

    // Promise 33: "NONE: ... or for another what".
    private static void happyAnotherWhat() {
        for (int hands = 2; hands <= 6; hands++) {
            StolenHours x = Check.with(3, "hands " + hands + ";");
            for (int what : Check.outside(0, 2)) {
                Check.due("happy " + what, x.happy(0, what), NONE);
            }
            Check.due("happy bits", x.happy(0, 0), (1 << hands) - 1);
            Check.due("pairs", x.happy(0, 1), 0);
            Check.due("envy", x.happy(0, 2), 0);
        }
    }

    private static void isHappy(String text, int bits, int pairs, int envy) {
        StolenHours x = Check.with(3, text);
        Check.due("happy of " + text, x.happy(0, 0), bits);
        Check.due("pairs of " + text, x.happy(0, 1), pairs);
        Check.due("envy of " + text, x.happy(0, 2), envy);
    }

    // "HANDS that have in the end what is WORTH most to them of all".
    private static void happyNoneAndAll() {
        isHappy("hands 2;worth 0 1 1;worth 1 0 1;", 3, 1, 0);
        isHappy("hands 2;worth 0 1 1;worth 1 1 1;", 2, 0, 1);
        isHappy("hands 2;worth 1 0 1;", 1, 0, 1);
        // as much as the most is happy, too
        isHappy("hands 2;worth 0 1 1;worth 0 0 1;", 3, 0, 0);
        // only the first one of six
        StringBuilder text = new StringBuilder("hands 6;");
        for (int h = 0; h < 6; h++) {
            text.append("worth ").append(h).append(" 0 9;");
        }
        isHappy(text.toString(), 1, 0, 5);
    }

    // "couples of HANDS ... that would both rather have each other's own MINUTE"; "couples (one, and another one)".
    private static void pairsAndEnvy() {
        // all six want each other's as much, and no one its own
        StringBuilder text = new StringBuilder("hands 6;");
        for (int a = 0; a < 6; a++) {
            for (int b = 0; b < 6; b++) {
                if (a != b) {
                    text.append("worth ").append(a).append(" ").append(b).append(" 1;");
                }
            }
        }
        isHappy(text.toString(), 63, 15, 0);
        // "both rather": as much as one's own is not rather
        isHappy("hands 2;worth 0 1 2;worth 0 0 2;worth 1 0 2;worth 1 1 1;", 1, 0, 1);
        isHappy("hands 2;worth 0 1 3;worth 0 0 2;worth 1 0 2;worth 1 1 1;", 3, 1, 0);
        // pairs by their own minutes, though in the end 2 has 0's no more; 2 envies 1, who has it, alone
        isHappy("hands 3;worth 0 1 9;worth 0 2 8;worth 1 0 9;worth 2 0 9;", 3, 2, 1);
        // a couple counts both ways
        isHappy("hands 4;worth 0 1 9;worth 1 0 9;worth 2 0 8;worth 2 1 9;worth 3 0 9;worth 3 1 8;", 3, 1, 4);
    }
}
