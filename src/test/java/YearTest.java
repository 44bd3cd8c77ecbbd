/** Promises 7 to 9, 21 and 31: years, deed by deed, and drawn ones. */
public final class YearTest {
    private static final int NONE = StolenHours.NONE;
    /** Minutes 0 to 2 are person 1's, 3 is 2's, 4 and 5 nobody's; coins 5, 3, 0; minute 5 costs 9, all others 2. */
    private static final String STREET = "minutes 6;people 3;coins 0 5;coins 1 3;coins 2 0;price 0 5 2;price 5 5 9;"
        + "has 1 0 2;has 2 3 3;business 2 0 3 7;business 1 5 5 4;";

    private YearTest() {
    }

    public static void main(String[] args) {
        deeds();
        buying();
        selling();
        thinking();
        stealing();
        doing();
        prices();
        ends();
        states();
        drawn();
        behindAllDeeds();
        twoYears();
        wrongNumbers();
        Check.finish("YearTest");
    }

    private static StolenHours living(String year) {
        StolenHours x = Check.withStreet(STREET);
        Check.due("year " + year, Check.tell(x, 1, NONE, year), 0);
        return x;
    }

    private static StolenHours till(String year, int want) {
        StolenHours x = living(year);
        Check.due("till of " + year, x.till(0, 0), want);
        return x;
    }

    private static void deeds() {
        StolenHours x = living("buy 0 1;think 1 2;steal 2 3;sell 3 4;do 2 5 39;dearer 6;cheaper 7;");
        int[][] want = {{0, 0, 1, NONE}, {1, 1, 2, NONE}, {2, 2, 3, NONE}, {3, 3, 4, NONE}, {4, 2, 5, 39},
            {5, 6, NONE, NONE}, {6, 7, NONE, NONE}};
        Check.due("deeds", x.deed(0, NONE, 0), 7);
        for (int k = 0; k < 7; k++) {
            for (int what = 0; what < 4; what++) {
                Check.due("deed " + k + " " + what, x.deed(0, k, what), want[k][what]);
            }
            Check.due("deed " + k + " 4", x.deed(0, k, 4), -2);
            Check.due("deed " + k + " -1", x.deed(0, k, -1), -2);
        }
        Check.due("deed NONE 1", x.deed(0, NONE, 1), -2);
        Check.due("deed NONE -1", x.deed(0, NONE, -1), -2);
        Check.due("deed 7", x.deed(0, 7, 0), -2);
        Check.due("deed -2", x.deed(0, -2, 0), -2);
        Check.due("deed of year 1", x.deed(1, NONE, 0), -2);
        Check.due("deed of year -1", x.deed(-1, 0, 0), -2);
        Check.due("fewer deeds", Check.tell(x, 1, 0, "sell 0 0;"), 0);
        Check.due("one deed", x.deed(0, NONE, 0), 1);
        Check.due("no deed 1", x.deed(0, 1, 0), -2);
    }

    private static void after(StolenHours x, int n, int... want) {
        for (int i = 0; i < want.length; i += 2) {
            Check.due("state " + n + " " + want[i], x.state(0, 0, n, want[i]), want[i + 1]);
        }
    }

    private static void buying() {
        after(till("buy 0 4;", 1), 1, 10, 3, 11, 3, 2, 6, 204, 0, 20, 1, 304, 0);
        after(till("buy 0 0;", 1), 1, 10, 3, 11, 5, 2, 8, 200, 0, 20, 1, 21, 2);
        after(till("buy 0 5;", 0), 0, 10, 5, 205, NONE);
        till("buy 1 0;", 0);
        till("buy 2 4;", 0);
        after(till("cheaper 4;cheaper 4;buy 2 4;", 3), 3, 12, 0, 204, 2, 104, 0);
        after(till("dearer 3;buy 1 3;", 2), 2, 11, 0, 12, 3, 203, 1, 103, 3);
        till("buy 1 4;buy 1 3;", 1);
        till("buy 3 4;", 0);
        till("buy 0 6;", 0);
        till("think 1 0;buy 0 0;", 1);
        after(till("buy 0 0;buy 1 0;", 2), 2, 10, 5, 11, 3, 200, 1);
    }

    private static void selling() {
        after(till("sell 1 0;", 1), 1, 11, 5, 200, NONE, 21, 2, 2, 10);
        till("sell 0 0;", 0);
        till("sell 0 4;", 0);
        till("sell 1 0;sell 1 0;", 1);
        till("think 1 0;sell 1 0;", 1);
        till("sell 3 0;", 0);
        till("sell 1 6;", 0);
        after(till("dearer 1;sell 1 1;", 2), 2, 11, 6);
    }

    private static void thinking() {
        after(till("think 1 0;", 1), 1, 0, 1, 300, 1, 301, 0, 200, 1, 21, 3, 11, 3);
        till("think 1 0;think 1 0;", 1);
        till("think 0 0;", 0);
        till("think 0 4;", 0);
        till("think 3 0;", 0);
        till("think 1 7;", 0);
    }

    private static void stealing() {
        after(till("steal 0 0;", 1), 1, 200, 0, 10, 5, 11, 3, 20, 1, 21, 2);
        till("steal 1 0;", 0);
        till("steal 0 4;", 0);
        till("think 1 0;steal 0 0;", 1);
        till("steal 3 0;", 0);
        till("steal 0 6;", 0);
        after(till("steal 0 0;steal 2 0;steal 1 0;", 3), 3, 200, 1);
    }

    private static void doing() {
        after(till("do 1 0 0;", 1), 1, 0, 2, 1, 1, 11, 10, 30, 1, 31, NONE, 300, 1, 301, 1, 302, 0, 200, 1);
        after(till("do 1 0 1;", 1), 1, 300, 0, 301, 1, 302, 1);
        till("do 1 0 2;", 0);
        after(till("steal 1 3;do 1 0 2;", 2), 2, 302, 1, 303, 1, 304, 0);
        till("steal 1 3;steal 0 1;buy 1 4;do 1 0 3;", 3);
        till("steal 1 3;do 1 0 0;do 1 0 2;", 2);
        till("think 1 1;do 1 0 0;", 1);
        till("think 1 1;do 1 0 1;", 1);
        till("do 1 1 5;", 0);
        till("do 1 1 0;", 0);
        till("do 1 2 0;", 0);
        till("do 3 0 0;", 0);
        till("do 0 0 0;", 0);
        after(till("do 1 0 0;buy 1 5;do 1 1 5;", 3), 3, 1, 2, 11, 5, 31, 1, 0, 3);
        till("do 1 0 39;", 0);
    }

    private static void prices() {
        after(till("dearer 0;", 1), 1, 100, 3, 101, 2);
        till("dearer 5;", 0);
        after(till("cheaper 5;dearer 5;dearer 5;", 2), 2, 105, 9);
        after(till("cheaper 0;cheaper 0;cheaper 0;", 2), 2, 100, 0);
        till("dearer 6;", 0);
        till("cheaper 6;", 0);
        after(till("think 1 0;dearer 0;", 2), 2, 100, 3);
    }

    private static void ends() {
        StolenHours x = till("", 0);
        Check.due("till of street 1", x.till(1, 0), NONE);
        Check.due("till of street -1", x.till(-1, 0), NONE);
        Check.due("till of year 1", x.till(0, 1), NONE);
        Check.due("till of year -1", x.till(0, -1), NONE);
        till("buy 0 4;sell 1 0;think 1 1;buy 0 1;buy 0 3;", 3);
        till(Check.times("dearer 0;cheaper 0;", 20), 40);
        Check.due("a second street", Check.tell(x, 0, NONE, "has 1 0 5;"), 1);
        Check.due("a second year", Check.tell(x, 1, NONE, "sell 1 3;"), 1);
        Check.due("till of 0, 1", x.till(0, 1), 0);
        Check.due("till of 1, 1", x.till(1, 1), 1);
    }

    private static void states() {
        StolenHours x = living("buy 0 4;think 1 1;steal 0 1;dearer 0;");
        after(x, 0, 0, 0, 1, 0, 2, 8, 10, 5, 11, 3, 12, 0, 20, 0, 21, 3, 22, 1, 30, NONE, 31, NONE, 100, 2, 105, 9,
            200, 1, 203, 2, 204, NONE, 300, 0, 305, 0);
        after(x, 1, 204, 0, 301, 0);
        after(x, 2, 0, 1, 301, 1, 204, 0, 21, 3);
        after(x, 3, 0, -2);
        after(x, -1, 0, -2);
        after(x, 4, 0, -2);
        after(x, 5, 0, -2);
        after(x, 2, -1, -2, 3, -2, 9, -2, 13, -2, 19, -2, 23, -2, 29, -2, 32, -2, 99, -2, 106, -2, 199, -2, 206, -2,
            299, -2, 306, -2, Integer.MIN_VALUE, -2, Integer.MAX_VALUE, -2);
        Check.due("state of street 1", x.state(1, 0, 0, 0), -2);
        Check.due("state of street -1", x.state(-1, 0, 0, 0), -2);
        Check.due("state of year 1", x.state(0, 1, 0, 0), -2);
        Check.due("state of year -1", x.state(0, -1, 0, 0), -2);
        Check.due("the street stays as told", x.street(0, 204), NONE);
        Check.due("its coins stay as told", x.street(0, 10), 5);
        StolenHours whole = living("dearer 0;");
        after(whole, 1, 100, 3);
        after(whole, 2, 100, -2);
    }

    /** By seed 1: do 0 1 3, sell 1 2 (may), sell 2 0, think 2 0, steal 2 1 (may), buy 2 5, do 1 0 5,
     * cheaper 0 (may), cheaper 4 (may), buy 1 1 (may), buy 1 1, sell 1 3. */
    private static void drawn() {
        StolenHours x = Check.withStreet(STREET);
        isDrawn(x, 1, 0, 10, 5, 11, 3, 12, 0, 2, 8, 200, 1, 100, 2);
        isDrawn(x, 1, 1, 11, 3, 202, 1);
        isDrawn(x, 1, 2, 11, 5, 202, NONE, 21, 2);
        isDrawn(x, 1, 6, 10, 5, 11, 5, 12, 0, 201, 2, 22, 2, 100, 2);
        isDrawn(x, 1, 8, 100, 1, 104, 2);
        isDrawn(x, 1, 12, 10, 5, 11, 3, 12, 2, 200, 1, 201, 1, 202, NONE, 203, 2, 104, 1, 0, 0, 1, 0);
        // -5: steal 0 2, buy 1 3 and sell 1 0 may be, of twelve
        isDrawn(x, -5, 12, 10, 5, 11, 3, 12, 2, 200, NONE, 201, 1, 202, 0, 203, 1, 204, NONE, 205, NONE);
        // 123456: think 1 2, steal 1 3 and others
        isDrawn(x, 123456, 1, 302, 1, 0, 1);
        Check.due("drawn -1 times", x.drawn(0, 1, -1, 0), -2);
        Check.due("drawn 61 times", x.drawn(0, 1, 61, 0), -2);
        Check.due("drawn 60 times", x.drawn(0, 1, 60, 300) >= 0, true);
        Check.due("drawn in street 1", x.drawn(1, 1, 1, 0), -2);
        Check.due("drawn in street -1", x.drawn(-1, 1, 1, 0), -2);
        isDrawn(x, 1, 5, 3, -2, -1, -2, 13, -2, 23, -2, 32, -2, 106, -2, 206, -2, 306, -2);
        Check.due("the street stays as told", x.street(0, 202), 1);
        drawnWithoutBusiness();
    }

    /** By seed 1: do, do, buy 1 3 (may), sell 0 3, steal 0 1, dearer 0 (may), buy 1 1 (may), cheaper 2 (may), do,
     * buy 1 3; of do no person and no minute is drawn. */
    private static void drawnWithoutBusiness() {
        StolenHours x = Check.withStreet("minutes 4;has 0 1 1;");
        isDrawn(x, 1, 2, 10, 20, 11, 20, 203, NONE);
        isDrawn(x, 1, 3, 11, 19, 203, 1);
        isDrawn(x, 1, 6, 100, 2, 201, 0);
        isDrawn(x, 1, 10, 10, 21, 11, 18, 201, 1, 203, 1, 102, 0, 100, 2, 101, 1, 1, 0, 0, 0);
    }

    private static void isDrawn(StolenHours x, int seed, int n, int... want) {
        for (int i = 0; i < want.length; i += 2) {
            Check.due("drawn " + seed + " " + n + " " + want[i], x.drawn(0, seed, n, want[i]), want[i + 1]);
        }
    }

    private static void isAfter(String year, int thinker, int richest, int victim, int restless, int often) {
        StolenHours x = living(year);
        int[] want = {thinker, richest, victim, restless, often};
        for (int what = 0; what < 5; what++) {
            Check.due("after " + what + " of " + year, x.after(0, 0, what), want[what]);
        }
        Check.due("after 5 of " + year, x.after(0, 0, 5), -2);
        Check.due("after -1 of " + year, x.after(0, 0, -1), -2);
        Check.due("after in street 1", x.after(1, 0, 0), -2);
        Check.due("after in street -1", x.after(-1, 0, 0), -2);
        Check.due("after of year 1", x.after(0, 1, 0), -2);
        Check.due("after of year -1", x.after(0, -1, 0), -2);
    }

    private static void behindAllDeeds() {
        isAfter("", NONE, 0, NONE, NONE, 0);
        isAfter("think 2 3;think 1 0;", 2, 0, NONE, NONE, 0);
        isAfter("think 1 0;think 2 3;", 1, 0, NONE, NONE, 0);
        isAfter("sell 1 2;", NONE, 0, NONE, 2, 1);
        isAfter("sell 1 2;sell 1 1;", NONE, 1, NONE, 1, 1);
        isAfter("steal 0 3;steal 0 1;", NONE, 0, 1, 1, 1);
        isAfter("steal 0 3;steal 2 3;steal 0 3;steal 0 1;", NONE, 0, 2, 3, 3);
        isAfter("steal 0 3;steal 2 3;steal 0 1;", NONE, 0, 0, 3, 2);
        isAfter("buy 0 4;sell 0 4;buy 0 4;buy 0 1;", NONE, 1, NONE, 4, 3);
        isAfter("sell 1 0;buy 0 4;think 0 4;buy 1 4;think 1 1;sell 2 3;", 0, 1, NONE, 0, 1);
        isAfter("do 1 0 0;", NONE, 1, NONE, NONE, 0);
        isAfter("dearer 0;cheaper 0;", NONE, 0, NONE, NONE, 0);
        isAfter("steal 1 0;steal 0 1;", NONE, 0, NONE, NONE, 0);
    }

    /** What was lived through in one year is nothing to the other. */
    private static void twoYears() {
        StolenHours x = living("think 1 0;steal 0 1;do 1 0 0;");
        Check.due("a second year", Check.tell(x, 1, NONE, "do 1 0 0;sell 1 2;"), 1);
        for (int time = 0; time < 2; time++) {
            Check.due("thinker there", x.after(0, 0, 0), 1);
            Check.due("thinker here", x.after(0, 1, 0), NONE);
            Check.due("victim there", x.after(0, 0, 2), 1);
            Check.due("victim here", x.after(0, 1, 2), NONE);
            Check.due("restless there", x.after(0, 0, 3), 1);
            Check.due("restless here", x.after(0, 1, 3), 2);
            Check.due("till there", x.till(0, 0), 2);
            Check.due("till here", x.till(0, 1), 2);
            Check.due("done there", x.state(0, 0, 2, 30), NONE);
            Check.due("done here", x.state(0, 1, 2, 30), 1);
            Check.due("used there", x.state(0, 0, 2, 0), 1);
            Check.due("used here", x.state(0, 1, 2, 0), 2);
            Check.due("drawn", x.drawn(0, 1, 0, 0), 0);
        }
    }

    private static void wrongNumbers() {
        StolenHours x = new StolenHours();
        Check.due("till of nothing", x.till(0, 0), NONE);
        Check.due("state of nothing", x.state(0, 0, 0, 0), -2);
        Check.due("after nothing", x.after(0, 0, 0), -2);
        Check.due("drawn of nothing", x.drawn(0, 0, 0, 0), -2);
    }
}
