/**
 * Points 2 and 5 of the Terms and promises 7 to 9, 21 and 31 where they tell a bound or a refusal: a method for each
 * such sentence.
 */
public final class YearBoundsTest {
    private static final int NONE = StolenHours.NONE;
    /** Which draw below 8 is which deed. */
    private static final int SELL = 3;
    private static final int STEAL = 4;
    private static final int THINK = 5;
    private static final int DO = 6;
    private static final int PRICE = 7;

    private YearBoundsTest() {
    }

    public static void main(String[] args) {
        beginsAsTold();
        buyForItsPrice();
        buyFromWhom();
        buyWhatIsNotUsed();
        sellHisOwn();
        thinkHisOwn();
        stealFromAnother();
        doFromTo();
        doInHisHands();
        doNotUsed();
        doNotDone();
        doForItsWorth();
        dearerUpToNine();
        cheaperDownToZero();
        noSuchPersonMinuteBusiness();
        oneMinuteForAll();
        endIsTheFirstThatCantBe();
        endOfAll();
        stateUpToEnd();
        stateOfAnotherWhat();
        noSuchYearOrStreet();
        deedOfAnother();
        drawnKinds();
        drawnIfItMay();
        drawnWithoutBusiness();
        drawnTimes();
        drawnWrapsAround();
        drawnOfAnotherWhat();
        thinkerNone();
        richestOfSeveral();
        victimOfSeveral();
        restlessOfSeveral();
        afterUpToEnd();
        afterAnotherWhat();
        Check.finish("YearBoundsTest");
    }

    /** That a year in a street has its END there; what is so in the STATE there: what and answer by turns. */
    private static StolenHours ends(String street, String year, int end, int... want) {
        StolenHours x = Check.withStreet(street);
        String name = " of \"" + year + "\" in \"" + street + "\"";
        Check.due("the year" + name, Check.tell(x, 1, NONE, year), 0);
        Check.due("till" + name, x.till(0, 0), end);
        for (int i = 0; i < want.length; i += 2) {
            Check.due("state " + want[i] + name, x.state(0, 0, end, want[i]), want[i + 1]);
        }
        Check.due("state behind END" + name, x.state(0, 0, end + 1, 0), -2);
        return x;
    }

    // "begins with all as told; no MINUTE is USED, no BUSINESS DONE".
    private static void beginsAsTold() {
        StolenHours x = ends("minutes 40;people 4;coins 3 99;price 5 9 7;has 2 8 20;" + Check.times("business 1 0 39 5;", 6), "", 0,
            0, 0, 1, 0, 2, 159, 10, 20, 13, 99, 20, 0, 22, 13, 104, 1, 105, 7, 109, 7, 110, 1, 207, NONE, 208, 2, 220, 2, 221, NONE);
        for (int m = 0; m < 40; m++) {
            Check.due("used at first, " + m, x.state(0, 0, 0, 300 + m), 0);
        }
        for (int b = 0; b < 6; b++) {
            Check.due("done at first, " + b, x.state(0, 0, 0, 30 + b), NONE);
        }
        // each time anew, whatever was lived before
        Check.tell(x, 1, 0, "think 2 8;do 2 0 9;buy 0 9;dearer 5;sell 2 10;");
        for (int time = 0; time < 2; time++) {
            Check.due("lived", x.till(0, 0), 2);
            Check.due("used anew", x.state(0, 0, 0, 0), 0);
            Check.due("done anew", x.state(0, 0, 0, 1), 0);
            Check.due("lived again", x.state(0, 0, 2, 0), 2);
            Check.due("coins again", x.state(0, 0, 2, 12), 25);
        }
    }

    // "one who has COINS for its PRICE pays it": as many, one less, one more; for nothing.
    private static void buyForItsPrice() {
        for (int price = 0; price <= 9; price++) {
            for (int coins = Math.max(0, price - 1); coins <= price + 1; coins++) {
                boolean goes = coins >= price;
                int left = goes ? coins - price : coins;
                ends("coins 0 " + coins + ";price 3 3 " + price + ";", "buy 0 3;", goes ? 1 : 0, 10, left, 11, 20,
                    203, goes ? 0 : NONE, 303, 0, 20, goes ? 1 : 0);
            }
        }
        ends("coins 0 2;", "buy 0 3;buy 0 4;buy 0 5;", 2, 10, 0, 20, 2, 205, NONE);
        // by the price as it is by now
        ends("coins 0 1;", "dearer 3;buy 0 3;", 1, 10, 1);
        ends("coins 0 0;", "cheaper 3;buy 0 3;", 2, 10, 0, 203, 0);
    }

    // "and not in his hands"; "to whom it belongs (nobody: it is gone)".
    private static void buyFromWhom() {
        ends("has 0 3 3;", "buy 0 3;", 0, 10, 20);
        ends("has 0 3 3;price 3 3 0;", "buy 0 3;", 0);
        ends("", "buy 0 3;buy 0 3;", 1);
        ends("price 3 3 7;", "buy 0 3;", 1, 10, 13, 11, 20, 2, 33);
        ends("has 1 3 3;price 3 3 7;", "buy 0 3;", 1, 10, 13, 11, 27, 2, 40, 203, 0, 21, 0);
        ends("price 3 3 7;", "buy 0 3;buy 1 3;buy 0 3;", 3, 10, 13, 11, 20, 203, 0);
        ends("coins 1 99;has 1 3 3;", "buy 0 3;", 1, 11, 100);
    }

    // "buy: a MINUTE that is not USED".
    private static void buyWhatIsNotUsed() {
        ends("has 1 3 3;", "think 1 3;buy 0 3;", 1, 10, 20, 203, 1, 303, 1);
        ends("has 1 3 4;business 1 3 3 0;", "do 1 0 3;buy 0 4;buy 0 3;", 2);
    }

    // "sell: a MINUTE of his that is not USED goes into nobody's hands, for its PRICE".
    private static void sellHisOwn() {
        ends("", "sell 0 3;", 0, 10, 20);
        ends("has 1 3 3;", "sell 0 3;", 0, 203, 1);
        ends("has 0 3 3;", "think 0 3;sell 0 3;", 1, 10, 20, 203, 0);
        ends("has 0 3 3;business 1 3 3 0;", "do 0 0 3;sell 0 3;", 1);
        for (int price = 0; price <= 9; price++) {
            ends("has 0 3 3;price 3 3 " + price + ";", "sell 0 3;sell 0 3;", 1, 10, 20 + price, 203, NONE, 20, 0, 103, price);
        }
        ends("has 0 3 3;coins 0 99;price 3 3 9;", "sell 0 3;", 1, 10, 108);
    }

    // "think: a MINUTE of his that is not USED is USED".
    private static void thinkHisOwn() {
        ends("", "think 0 3;", 0, 303, 0);
        ends("has 1 3 3;", "think 0 3;", 0, 303, 0);
        ends("has 0 3 3;", "think 0 3;", 1, 303, 1, 302, 0, 304, 0, 0, 1, 203, 0, 20, 1, 10, 20, 103, 1);
        ends("has 0 3 3;", "think 0 3;think 0 3;", 1, 0, 1);
        ends("has 0 3 3;business 1 3 3 0;", "do 0 0 3;think 0 3;", 1, 0, 1);
    }

    // "steal: a MINUTE in another one's hands that is not USED is his".
    private static void stealFromAnother() {
        ends("", "steal 0 3;", 0, 203, NONE);
        ends("has 0 3 3;", "steal 0 3;", 0, 203, 0);
        ends("has 1 3 3;price 3 3 9;coins 0 0;", "steal 0 3;", 1, 203, 0, 10, 0, 11, 20, 20, 1, 21, 0);
        ends("has 1 3 3;", "think 1 3;steal 0 3;", 1, 203, 1);
        ends("has 1 3 3;business 1 3 3 0;", "do 1 0 3;steal 0 3;", 1, 203, 1);
        ends("has 1 3 3;", "steal 0 3;steal 0 3;", 1);
        ends("has 1 3 3;", "sell 1 3;steal 0 3;", 1);
        ends("people 4;has 3 3 3;", "steal 0 3;steal 1 3;steal 2 3;steal 3 3;", 4, 203, 3);
    }

    // "by as many MINUTES, one behind the other from its first one on, as its LENGTH, all from FROM to TO".
    private static void doFromTo() {
        for (int length = 1; length <= 9; length++) {
            String street = "minutes 40;has 0 0 39;business " + length + " 10 20 7;";
            for (int first = 0; first < 40; first++) {
                boolean goes = first >= 10 && first + length - 1 <= 20;
                StolenHours x = ends(street, "do 0 0 " + first + ";", goes ? 1 : 0, 0, goes ? length : 0, 1, goes ? 1 : 0,
                    30, goes ? 0 : NONE, 10, goes ? 27 : 20);
                for (int m = Math.max(0, first - 1); m <= first + length && m < 40; m++) {
                    boolean used = goes && m >= first && m < first + length;
                    Check.due("used by " + length + " from " + first + ": " + m, x.state(0, 0, goes ? 1 : 0, 300 + m), used ? 1 : 0);
                }
            }
        }
        ends("minutes 40;has 0 0 39;business 9 31 39 1;", "do 0 0 31;", 1, 339, 1, 330, 0);
        ends("minutes 40;has 0 0 39;business 9 0 39 1;", "do 0 0 32;", 0);
        ends("has 0 0 11;business 3 0 1 1;", "do 0 0 0;", 0);
    }

    // "all in his hands".
    private static void doInHisHands() {
        for (int other = 2; other <= 7; other++) {
            boolean goes = other < 3 || other > 6;
            String street = "has 0 0 11;has 1 " + other + " " + other + ";business 4 0 11 7;";
            ends(street, "do 0 0 3;", goes ? 1 : 0);
            ends(street, "sell 1 " + other + ";do 0 0 3;", goes ? 2 : 1);
            ends(street, "buy 0 " + other + ";do 0 0 3;", 2, 20, 12);
        }
        ends("business 1 0 11 0;", "do 0 0 3;", 0);
        ends("business 1 0 11 0;", "do 0 0 0;", 0);
        ends("minutes 40;business 1 0 39 0;", "do 0 0 39;", 0);
        ends("has 0 1 11;business 2 0 11 0;", "do 0 0 0;", 0);
        ends("has 1 0 11;business 1 0 11 0;", "do 0 0 3;do 1 0 3;", 0);
        ends("has 1 0 11;business 1 0 11 0;", "do 1 0 3;", 1, 30, 1);
    }

    // "none USED: they are USED".
    private static void doNotUsed() {
        for (int used = 2; used <= 7; used++) {
            boolean goes = used < 3 || used > 6;
            ends("has 0 0 11;business 4 0 11 7;", "think 0 " + used + ";do 0 0 3;", goes ? 2 : 1, 0, goes ? 5 : 1);
        }
        ends("has 0 0 11;business 1 0 11 7;", "think 0 0;do 0 0 0;", 1);
        ends("has 0 0 11;business 1 0 11 7;", "think 0 11;do 0 0 11;", 1);
        String two = "has 0 0 11;business 4 0 11 7;business 4 0 11 7;";
        for (int first = 0; first <= 8; first++) {
            boolean goes = first == 0 || first >= 8;
            ends(two, "do 0 0 4;do 0 1 " + first + ";", goes ? 2 : 1, 0, goes ? 8 : 4);
        }
    }

    // "a BUSINESS that is not DONE", "it is DONE by him".
    private static void doNotDone() {
        String street = "has 0 0 5;has 1 6 11;business 1 0 11 7;business 1 0 11 7;";
        ends(street, "do 0 0 3;do 0 0 4;", 1, 30, 0, 31, NONE, 1, 1);
        ends(street, "do 0 0 3;do 1 0 6;", 1, 30, 0);
        ends(street, "do 0 0 3;do 0 1 4;", 2, 30, 0, 31, 0, 1, 2);
        ends(street, "do 1 1 11;do 0 0 0;do 0 1 1;", 2, 30, 0, 31, 1, 1, 2);
        // the minute's next owner is none: a used one stays
        ends(street, "do 0 0 3;steal 1 3;", 1, 203, 0);
    }

    // "he has its WORTH in COINS more".
    private static void doForItsWorth() {
        for (int worth : new int[] {0, 1, 98, 99}) {
            ends("coins 0 99;has 0 0 0;business 1 0 0 " + worth + ";", "do 0 0 0;", 1, 10, 99 + worth, 11, 20, 2, 119 + worth);
        }
        // doing costs nothing
        ends("coins 0 0;price 0 0 9;has 0 0 0;business 1 0 0 3;", "do 0 0 0;", 1, 10, 3);
    }

    // "dearer ...: the PRICE of a MINUTE is 1 more; not if it is 9".
    private static void dearerUpToNine() {
        for (int price = 0; price <= 9; price++) {
            String year = Check.times("dearer 3;", 11);
            ends("price 3 3 " + price + ";", year, 9 - price, 103, 9, 102, 1, 104, 1);
            ends("price 3 3 " + price + ";", "dearer 3;", price < 9 ? 1 : 0, 103, Math.min(9, price + 1));
        }
        ends("has 0 3 3;", "think 0 3;dearer 3;", 2, 103, 2, 303, 1);
    }

    // "cheaper: ... less; not if it is ... 0".
    private static void cheaperDownToZero() {
        for (int price = 0; price <= 9; price++) {
            ends("price 3 3 " + price + ";", Check.times("cheaper 3;", 11), price, 103, 0, 102, 1, 104, 1);
            ends("price 3 3 " + price + ";", "cheaper 3;", price > 0 ? 1 : 0, 103, Math.max(0, price - 1));
        }
        ends("", "cheaper 3;cheaper 3;dearer 3;", 1, 103, 0);
        ends("price 3 3 9;", "dearer 3;cheaper 3;", 0, 103, 9);
        ends("has 0 3 3;", "think 0 3;cheaper 3;", 2, 103, 0);
    }

    // "A DEED can't be, if there is no such PERSON, MINUTE, BUSINESS".
    private static void noSuchPersonMinuteBusiness() {
        for (int people = 1; people <= 4; people++) {
            for (int p = 0; p <= 3; p++) {
                int there = p < people ? 1 : 0;
                String street = "people " + people + ";has 0 0 5;business 1 0 5 1;";
                ends(street, "buy " + p + " 6;", there);
                // what is his he can think away, sell, do
                String his = p < people ? "has " + p + " 0 5;" : "";
                ends(street + his, "think " + p + " 0;", there);
                ends(street + his, "sell " + p + " 0;", there);
                ends(street + his, "do " + p + " 0 0;", there);
                ends(street, "steal " + p + " 0;", p == 0 ? 0 : there);
            }
        }
        for (int minutes : new int[] {1, 2, 38, 39, 40}) {
            for (int m : new int[] {0, 1, 2, 37, 38, 39}) {
                int there = m < minutes ? 1 : 0;
                String street = "minutes " + minutes + ";business 1 0 " + (minutes - 1) + " 1;";
                String his = street + "has 0 0 " + (minutes - 1) + ";";
                ends(street, "buy 0 " + m + ";", there);
                ends(street, "dearer " + m + ";", there);
                ends(street, "cheaper " + m + ";", there);
                ends(his, "think 0 " + m + ";", there);
                ends(his, "sell 0 " + m + ";", there);
                ends(his, "steal 1 " + m + ";", there);
                ends(his, "do 0 0 " + m + ";", there);
            }
        }
        for (int many = 0; many <= 6; many++) {
            for (int b = 0; b <= 5; b++) {
                ends("has 0 0 0;" + Check.times("business 1 0 0 1;", many), "do 0 " + b + " 0;", b < many ? 1 : 0);
            }
        }
    }

    // One minute, and more people and business than that: each can be where he, it and the minute are there.
    private static void oneMinuteForAll() {
        String street = "minutes 1;people 4;has 3 0 0;" + Check.times("business 1 0 0 2;", 6);
        ends(street, "sell 3 0;buy 2 0;steal 3 0;do 3 5 0;", 4, 0, 1, 13, 23, 12, 19, 35, 3, 200, 3);
        ends(street, "think 3 0;", 1, 0, 1, 300, 1);
        ends(street, "do 3 4 0;", 1, 34, 3, 13, 22);
        ends(street, "buy 0 0;sell 0 0;", 2, 10, 20, 13, 21, 200, NONE);
    }

    // "END: the first DEED that can't be": what comes behind it is not lived, though it could be.
    private static void endIsTheFirstThatCantBe() {
        for (int at = 0; at < 40; at++) {
            String year = Check.times("dearer 0;cheaper 0;", 20);
            year = year.substring(0, 9 * at + (at / 2)) + "think 0 0;" + Check.times("dearer 1;", 39 - at);
            ends("", year, at, 100, at % 2 == 1 ? 2 : 1, 101, 1);
        }
    }

    // "else how many there are": of 0 to 40.
    private static void endOfAll() {
        for (int many = 0; many <= 40; many++) {
            String year = Check.times("buy 0 0;buy 1 0;", 20).substring(0, 8 * many);
            StolenHours x = ends("", year, many, 200, many == 0 ? NONE : (many + 1) % 2);
            Check.due("deeds", x.deed(0, NONE, 0), many);
        }
    }

    // "A STATE is behind the first n DEEDS, n up to END"; promise 9: "-2: there is no such STATE".
    private static void stateUpToEnd() {
        String[] years = {"", "sell 0 0;", "dearer 0;", "dearer 0;dearer 0;sell 0 0;dearer 0;", Check.times("dearer 0;cheaper 0;", 20)};
        int[] ends = {0, 0, 1, 2, 40};
        for (int i = 0; i < years.length; i++) {
            StolenHours x = Check.withStreet("");
            Check.tell(x, 1, NONE, years[i]);
            for (int n = 0; n <= ends[i]; n++) {
                int price = i == 4 ? 1 + n % 2 : 1 + n;
                Check.due("state " + n + " of " + years[i], x.state(0, 0, n, 100), price);
            }
            for (int n : Check.outside(0, ends[i])) {
                Check.due("state " + n + " of " + years[i], x.state(0, 0, n, 100), -2);
            }
        }
    }

    private static void areTheWhats(String name, Call call, int minutes, int people, int business) {
        int[][] rows = {{0, 3}, {10, people}, {20, people}, {30, business}, {100, minutes}, {200, minutes}, {300, minutes}};
        for (int what = -10; what < 420; what++) {
            boolean there = false;
            for (int[] row : rows) {
                there |= what >= row[0] && what < row[0] + row[1];
            }
            Check.due(name + " what " + what + " is there", call.of(what) != -2, there);
        }
        for (int what : Check.outside(-1000, 1000)) {
            Check.due(name + " what " + what, call.of(what), -2);
        }
    }

    private interface Call {
        int of(int number);
    }

    private static final String LEAST = "minutes 1;people 1;";
    private static final String MOST = "minutes 40;people 4;" + Check.times("business 1 0 0 0;", 6);

    // Promise 9: "or for another what".
    private static void stateOfAnotherWhat() {
        StolenHours least = ends(LEAST, "", 0);
        areTheWhats("state of the least", what -> least.state(0, 0, 0, what), 1, 1, 0);
        StolenHours some = ends("business 1 0 0 0;", "", 0);
        areTheWhats("state of some", what -> some.state(0, 0, 0, what), 12, 2, 1);
        StolenHours most = ends(MOST, "", 0);
        areTheWhats("state of the most", what -> most.state(0, 0, 0, what), 40, 4, 6);
    }

    // Promises 8, 9, 31: "there is none such (of either)": NONE, -2, -2.
    private static void noSuchYearOrStreet() {
        for (int streets = 0; streets <= 2; streets++) {
            for (int years = 0; years <= 2; years++) {
                StolenHours x = new StolenHours();
                for (int i = 0; i < streets; i++) {
                    Check.tell(x, 0, NONE, "");
                }
                for (int i = 0; i < years; i++) {
                    Check.tell(x, 1, NONE, "");
                }
                int[] numbers = {Integer.MIN_VALUE, -2, -1, 0, 1, 2, 3, Integer.MAX_VALUE};
                for (int s : numbers) {
                    for (int y : numbers) {
                        boolean there = s >= 0 && s < streets && y >= 0 && y < years;
                        String of = " of " + s + ", " + y + " where there are " + streets + ", " + years;
                        Check.due("till" + of, x.till(s, y), there ? 0 : NONE);
                        Check.due("state" + of, x.state(s, y, 0, 0), there ? 0 : -2);
                        Check.due("after" + of, x.after(s, y, 1), there ? 0 : -2);
                    }
                }
            }
        }
    }

    // Promise 7: "-2: there is none such (of either), or for another what"; "its numbers (NONE without)".
    private static void deedOfAnother() {
        String[] lines = {"buy 1 2;", "think 1 2;", "steal 1 2;", "sell 1 2;", "do 1 2 3;", "dearer 1;", "cheaper 1;"};
        StringBuilder all = new StringBuilder();
        for (String line : lines) {
            all.append(line);
        }
        StolenHours x = Check.with(1, all.toString());
        for (int k = 0; k < 7; k++) {
            int numbers = k == 4 ? 3 : k > 4 ? 1 : 2;
            Check.due("deed " + k, x.deed(0, k, 0), k);
            for (int what = 1; what <= 3; what++) {
                Check.due("deed " + k + " " + what, x.deed(0, k, what), what <= numbers ? what : NONE);
            }
            for (int what : Check.outside(0, 3)) {
                Check.due("deed " + k + " " + what, x.deed(0, k, what), -2);
            }
        }
        for (int many : new int[] {0, 1, 39, 40}) {
            StolenHours year = Check.with(1, Check.times("dearer 0;", many));
            Check.due("deeds", year.deed(0, NONE, 0), many);
            for (int what : Check.outside(0, 0)) {
                Check.due("deeds " + what, year.deed(0, NONE, what), -2);
            }
            for (int k : Check.outside(-1, many - 1)) {
                Check.due("deed " + k + " of " + many, year.deed(0, k, 0), -2);
            }
            for (int k = 0; k < many; k++) {
                Check.due("deed " + k + " of " + many, year.deed(0, k, 0), 5);
            }
        }
        for (int years = 0; years <= 2; years++) {
            StolenHours told = new StolenHours();
            for (int i = 0; i < years; i++) {
                Check.tell(told, 1, NONE, "dearer 0;");
            }
            for (int year : Check.outside(0, years - 1)) {
                Check.due("deeds of year " + year, told.deed(year, NONE, 0), -2);
                Check.due("deed of year " + year, told.deed(year, 0, 0), -2);
            }
            for (int year = 0; year < years; year++) {
                Check.due("deeds of year " + year, told.deed(year, NONE, 0), 1);
            }
        }
    }

    /** The least seed from a number on by which the numbers below those that stand first in each pair are the second. */
    private static int seedFor(int from, int... pairs) {
        for (long seed = from; seed < from + 50000000L && seed <= Integer.MAX_VALUE; seed++) {
            long x = seed & 0xffffffffL;
            boolean good = true;
            for (int i = 0; i < pairs.length && good; i += 2) {
                x = (x * 1103515245L + 12345L) % 4294967296L;
                good = (x >> 16) % pairs[i] == pairs[i + 1];
            }
            if (good) {
                return (int) seed;
            }
        }
        throw new IllegalStateException("no such seed");
    }

    private static final String TWO = "minutes 7;people 3;has 0 0 2;has 1 3 4;has 2 5 5;business 2 0 4 6;business 1 5 6 9;";

    /** That what is drawn by a seed is what a deed does. */
    private static void isDrawn(String street, String deed, int... pairs) {
        int seed = seedFor(0, pairs);
        StolenHours x = Check.withStreet(street);
        Check.due("the deed " + deed, Check.tell(x, 1, NONE, deed), 0);
        int end = x.till(0, 0);
        int[] whats = {0, 1, 2, 10, 11, 12, 20, 21, 22, 30, 31, 100, 101, 102, 103, 104, 105, 106, 200, 201, 202, 203, 204, 205,
            206, 300, 301, 302, 303, 304, 305, 306};
        for (int what : whats) {
            Check.due("drawn by " + seed + " as " + deed + " " + what, x.drawn(0, seed, 1, what), x.state(0, 0, end, what));
        }
    }

    // "a number below 8: 0, 1, 2: buy, 3: sell, 4: steal, 5: think, a PERSON, ..., a MINUTE ...; 6: do ...; 7 ...".
    private static void drawnKinds() {
        for (int m = 0; m < 7; m++) {
            for (int p = 0; p < 3; p++) {
                String numbers = p + " " + m + ";";
                for (int kind = 0; kind < 3; kind++) {
                    isDrawn(TWO, "buy " + numbers, 8, kind, 3, p, 7, m);
                }
                isDrawn(TWO, "sell " + numbers, 8, SELL, 3, p, 7, m);
                isDrawn(TWO, "steal " + numbers, 8, STEAL, 3, p, 7, m);
                isDrawn(TWO, "think " + numbers, 8, THINK, 3, p, 7, m);
                for (int b = 0; b < 2; b++) {
                    isDrawn(TWO, "do " + p + " " + b + " " + m + ";", 8, DO, 3, p, 2, b, 7, m);
                }
            }
            isDrawn(TWO, "dearer " + m + ";", 8, PRICE, 2, 0, 7, m);
            isDrawn(TWO, "cheaper " + m + ";", 8, PRICE, 2, 1, 7, m);
        }
    }

    // "each, if it may": what may not leaves all as it is, and the next is drawn from the same numbers.
    private static void drawnIfItMay() {
        String street = "minutes 1;people 1;coins 0 0;price 0 0 9;";
        int dearer = seedFor(0, 8, PRICE, 2, 0, 1, 0, 8, PRICE, 2, 1, 1, 0);
        StolenHours x = Check.withStreet(street);
        Check.due("dearer than 9", x.drawn(0, dearer, 1, 100), 9);
        Check.due("cheaper behind it", x.drawn(0, dearer, 2, 100), 8);
        int buy = seedFor(0, 8, 0, 1, 0, 1, 0, 8, PRICE, 2, 1, 1, 0);
        Check.due("bought without coins", x.drawn(0, buy, 1, 200), NONE);
        Check.due("cheaper behind it", x.drawn(0, buy, 2, 100), 8);
        for (int kind : new int[] {SELL, STEAL, THINK}) {
            int seed = seedFor(0, 8, kind, 1, 0, 1, 0, 8, PRICE, 2, 1, 1, 0);
            Check.due("what may not be: used", x.drawn(0, seed, 1, 0), 0);
            Check.due("what may not be: coins", x.drawn(0, seed, 1, 10), 0);
            Check.due("what may not be: hands", x.drawn(0, seed, 1, 200), NONE);
            Check.due("cheaper behind it", x.drawn(0, seed, 2, 100), 8);
        }
        StolenHours free = Check.withStreet("minutes 1;people 1;price 0 0 0;");
        int cheaper = seedFor(0, 8, PRICE, 2, 1, 1, 0, 8, PRICE, 2, 0, 1, 0);
        Check.due("cheaper than 0", free.drawn(0, cheaper, 1, 100), 0);
        Check.due("dearer behind it", free.drawn(0, cheaper, 2, 100), 1);
        StolenHours done = Check.withStreet("minutes 2;people 1;has 0 0 1;business 1 0 1 5;");
        int twice = seedFor(0, 8, DO, 1, 0, 1, 0, 2, 0, 8, DO, 1, 0, 1, 0, 2, 1);
        Check.due("done once", done.drawn(0, twice, 1, 10), 25);
        Check.due("not twice", done.drawn(0, twice, 2, 10), 25);
        Check.due("used once", done.drawn(0, twice, 2, 0), 1);
    }

    // "(Without BUSINESS 6 draws no more, nothing is done.)"
    private static void drawnWithoutBusiness() {
        String street = "minutes 5;people 3;has 0 0 4;";
        // 6, and at once the next deed: think 0 3
        int seed = seedFor(0, 8, DO, 8, THINK, 3, 0, 5, 3);
        StolenHours x = Check.withStreet(street);
        Check.due("nothing is done", x.drawn(0, seed, 1, 1), 0);
        Check.due("nothing is used", x.drawn(0, seed, 1, 0), 0);
        Check.due("no coins come", x.drawn(0, seed, 1, 2), 60);
        Check.due("the next is drawn at once", x.drawn(0, seed, 2, 303), 1);
        Check.due("it alone", x.drawn(0, seed, 2, 0), 1);
        // with business the same seed has a person, a business and a minute drawn first
        int other = seedFor(0, 8, DO, 3, 1, 1, 0, 5, 2, 8, THINK, 3, 0, 5, 3);
        StolenHours y = Check.withStreet(street + "business 1 0 4 1;");
        Check.due("the next behind three numbers", y.drawn(0, other, 2, 303), 1);
        Check.due("it alone", y.drawn(0, other, 2, 0), 1);
    }

    // "n times, 0 to 60"; promise 21: "another n".
    private static void drawnTimes() {
        StolenHours x = Check.withStreet("minutes 1;people 1;price 0 0 5;");
        // a street of one minute, whose price and hands alone can change: each deed takes as many numbers as it must
        for (int n = 0; n <= 60; n++) {
            Check.due("drawn " + n + " times", x.drawn(0, 99, n, 100), priceByHand(99, n));
            Check.due("drawn " + n + " times from none", x.drawn(0, 0, n, 100), priceByHand(0, n));
        }
        for (int n : Check.outside(0, 60)) {
            Check.due("drawn " + n + " times", x.drawn(0, 99, n, 100), -2);
            Check.due("drawn " + n + " times, used", x.drawn(0, 99, n, 0), -2);
        }
        Check.due("drawn no times", x.drawn(0, 99, 0, 0), 0);
        Check.due("the street stays as told", x.street(0, 100), 5);
    }

    /** The price of the one minute of a street without business behind n draws. */
    private static int priceByHand(long seed, int n) {
        long x = seed;
        int price = 5;
        for (int i = 0; i < n; i++) {
            x = next(x);
            long kind = (x >> 16) % 8;
            if (kind == 7) {
                x = next(x);
                int by = (x >> 16) % 2 == 0 ? 1 : -1;
                x = next(x);
                price = price + by < 0 || price + by > 9 ? price : price + by;
            } else if (kind < 6) {
                x = next(next(x));
            }
        }
        return price;
    }

    private static long next(long x) {
        return (x * 1103515245L + 12345L) % 4294967296L;
    }

    // "(of 32 bits)", "shifted right by 16 without sign": seeds below 0 and near the ends.
    private static void drawnWrapsAround() {
        int[] starts = {Integer.MIN_VALUE, Integer.MIN_VALUE + 1000, -100000, -1, 0, 1, 65535, 65536, Integer.MAX_VALUE - 100000};
        for (int start : starts) {
            int seed = start == -1 || start == Integer.MIN_VALUE ? start : seedFor(start, 8, PRICE, 2, 0, 12, 11);
            StolenHours x = Check.withStreet("");
            int kind = number(seed, 0) % 8;
            int person = number(seed, 1) % 2;
            int minute = number(seed, 2) % 12;
            String of = " by seed " + seed;
            boolean buys = kind < 3;
            boolean price = kind == PRICE;
            Check.due("hands" + of, x.drawn(0, seed, 1, 200 + minute), buys ? person : NONE);
            Check.due("price" + of, x.drawn(0, seed, 1, 100 + minute), price ? person == 0 ? 2 : 0 : 1);
            Check.due("coins" + of, x.drawn(0, seed, 1, 10 + person), buys ? 19 : 20);
        }
        // a seed and the same one by 32 bits more are one; x below 0 is shifted as if it weren't
        int below = seedFor(0, 8, PRICE, 2, 1, 12, 0);
        while (below * 1103515245 + 12345 >= 0) {
            below = seedFor(below + 1, 8, PRICE, 2, 1, 12, 0);
        }
        Check.due("x below 0", Check.withStreet("").drawn(0, below, 1, 100), 0);
    }

    private static int number(int seed, int at) {
        long x = seed & 0xffffffffL;
        for (int i = 0; i <= at; i++) {
            x = next(x);
        }
        return (int) (x >> 16);
    }

    // Promise 21: "-2: there is none such, ... or for another what".
    private static void drawnOfAnotherWhat() {
        StolenHours least = Check.withStreet(LEAST);
        areTheWhats("drawn of the least", what -> least.drawn(0, 7, 9, what), 1, 1, 0);
        StolenHours most = Check.withStreet(MOST);
        areTheWhats("drawn of the most", what -> most.drawn(0, 7, 9, what), 40, 4, 6);
        for (int streets = 0; streets <= 2; streets++) {
            StolenHours x = new StolenHours();
            for (int i = 0; i < streets; i++) {
                Check.tell(x, 0, NONE, "");
            }
            for (int street : Check.outside(0, streets - 1)) {
                Check.due("drawn in street " + street, x.drawn(street, 7, 0, 0), -2);
            }
            for (int street = 0; street < streets; street++) {
                Check.due("drawn in street " + street, x.drawn(street, 7, 0, 0), 0);
            }
        }
    }

    private static void isAfter(String street, String year, int what, int want) {
        StolenHours x = Check.withStreet(street);
        Check.due("the year " + year, Check.tell(x, 1, NONE, year), 0);
        Check.due("after " + what + " of \"" + year + "\" in \"" + street + "\"", x.after(0, 0, what), want);
    }

    // "THINKER: who thought first (none)".
    private static void thinkerNone() {
        String street = "people 4;has 0 0 2;has 3 3 5;business 1 0 11 5;";
        isAfter(street, "", 0, NONE);
        isAfter(street, "do 0 0 0;buy 1 0;dearer 0;", 0, NONE);
        isAfter(street, "think 1 0;", 0, NONE);
        isAfter(street, "think 0 0;", 0, 0);
        isAfter(street, "think 3 3;", 0, 3);
        isAfter(street, "think 3 3;think 0 0;think 0 1;", 0, 3);
        isAfter(street, "think 0 0;think 3 3;think 3 4;", 0, 0);
        isAfter(street, "think 0 3;think 3 3;", 0, NONE);
    }

    // "RICHEST: the PERSON with most COINS, of several the least".
    private static void richestOfSeveral() {
        isAfter("people 1;coins 0 0;", "", 1, 0);
        isAfter("people 4;", "", 1, 0);
        isAfter("people 4;coins 0 19;", "", 1, 1);
        isAfter("people 4;coins 3 21;", "", 1, 3);
        isAfter("people 4;coins 2 21;coins 3 21;", "", 1, 2);
        isAfter("people 4;coins 0 0;coins 1 0;coins 2 0;coins 3 0;", "", 1, 0);
        isAfter("has 1 0 0;", "sell 1 0;", 1, 1);
        isAfter("coins 0 21;has 1 0 0;", "sell 1 0;", 1, 0);
    }

    // "VICTIM: from whom most MINUTES were stolen, of several the least (none)".
    private static void victimOfSeveral() {
        String street = "people 4;has 0 0 2;has 1 3 5;has 2 6 8;has 3 9 11;";
        isAfter(street, "", 2, NONE);
        isAfter(street, "buy 0 3;sell 1 4;", 2, NONE);
        isAfter(street, "steal 0 11;", 2, 3);
        isAfter(street, "steal 1 11;steal 1 0;", 2, 0);
        isAfter(street, "steal 1 0;steal 1 11;steal 0 10;", 2, 3);
        isAfter(street, "steal 0 6;steal 0 7;steal 1 10;steal 1 11;", 2, 2);
        isAfter(street, "steal 0 0;steal 1 11;", 2, NONE);
        isAfter(street, "steal 1 11;steal 3 11;", 2, 1);
    }

    // "RESTLESS: the MINUTE that changed hands most often (bought, sold, stolen), of several the least (none); how often".
    private static void restlessOfSeveral() {
        String street = "minutes 40;coins 0 99;coins 1 99;has 0 0 2;has 1 3 5;business 1 0 39 5;";
        isMoved(street, "", NONE, 0);
        isMoved(street, "think 0 0;do 0 0 1;dearer 2;cheaper 3;", NONE, 0);
        isMoved(street, "buy 0 39;", 39, 1);
        isMoved(street, "sell 1 5;", 5, 1);
        isMoved(street, "steal 0 4;", 4, 1);
        isMoved(street, "buy 0 39;sell 1 5;steal 0 4;", 4, 1);
        isMoved(street, "buy 0 39;sell 0 39;steal 0 4;", 39, 2);
        isMoved(street, "buy 0 39;sell 0 39;steal 0 4;sell 0 4;", 4, 2);
        isMoved(street, "sell 0 0;buy 0 0;sell 0 0;buy 1 39;sell 1 39;", 0, 3);
        isMoved(street, Check.times("steal 1 0;steal 0 0;", 20), 0, 40);
    }

    private static void isMoved(String street, String year, int minute, int often) {
        isAfter(street, year, 3, minute);
        isAfter(street, year, 4, often);
    }

    // "behind all DEEDS up to END".
    private static void afterUpToEnd() {
        String street = "has 0 0 2;has 1 3 5;";
        String year = "steal 0 3;sell 0 3;buy 0 0;think 1 4;steal 0 5;buy 1 3;sell 1 3;";
        int[] want = {NONE, 0, 1, 3, 2};
        for (int what = 0; what < 5; what++) {
            isAfter(street, year, what, want[what]);
        }
        String whole = year.replace("buy 0 0;", "");
        int[] more = {1, 0, 1, 3, 4};
        for (int what = 0; what < 5; what++) {
            isAfter(street, whole, what, more[what]);
        }
    }

    // Promise 31: "or for another what".
    private static void afterAnotherWhat() {
        for (String year : new String[] {"", "buy 0 0;think 0 0;"}) {
            StolenHours x = Check.withStreet("");
            Check.tell(x, 1, NONE, year);
            for (int what : Check.outside(0, 4)) {
                Check.due("after " + what, x.after(0, 0, what), -2);
            }
            for (int what = 0; what <= 4; what++) {
                Check.due("after " + what + " is there", x.after(0, 0, what) != -2, true);
            }
        }
    }
}
