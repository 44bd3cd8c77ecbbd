/** Promises 6, 10 to 15 and 22 to 29 where they tell a bound or a refusal: a method for each such sentence. */
public final class StreetBoundsTest {
    private static final int NONE = StolenHours.NONE;
    /** Everybody can do its one business, for 1; three minutes are enough to be in all its runs. */
    private static final String SMALL = "minutes 3;business 1 0 2 9;";

    private interface Call {
        long of(StolenHours x, int number);
    }

    private StreetBoundsTest() {
    }

    public static void main(String[] args) {
        noSuchStreet();
        noSuchPerson();
        noSuchBusiness();
        noSuchBits();
        allBits();
        noBits();
        anotherWhatOfAStreet();
        runTooLong();
        runOfSeveralTheLeast();
        runCosts();
        errandsWithoutRoom();
        errandsOfAnotherBusiness();
        errandsFirstRow();
        errandsOfEachFromEachMinute();
        planByCoins();
        planOfNothing();
        planOfSeveral();
        halvesAsManyAsThereAre();
        halvesTheLeastThatAreBest();
        freeNoneAndAll();
        freeOfSeveral();
        cornerUpToThree();
        cornerInWhoseHands();
        robbedUpToThree();
        robbedByHisOwn();
        rowsAtOtherPlaces();
        sharedOfOne();
        sharedByNeitherAlone();
        giftWhereAllAreHis();
        giftThatCantBe();
        giftOfSeveral();
        missedMinutes();
        wantedNone();
        wantedOfSeveral();
        leftCoins();
        earlyOfNone();
        earlyByHisOwnAlone();
        rankedNotSoMany();
        rankedOfSeveral();
        oneMinuteForAll();
        Check.finish("StreetBoundsTest");
    }

    private static void isRefusedOutside(String name, StolenHours x, int least, int most, long refusal, Call call) {
        for (int number : Check.outside(least, most)) {
            Check.due(name + " of " + number, call.of(x, number), refusal);
        }
        for (int number = least; number <= most; number++) {
            Check.due(name + " of " + number + " is answered", call.of(x, number) != refusal, true);
        }
    }

    // "there is none such": of no streets, of one, of two; promise 13: "-1000", 6, 14, 26: "-2".
    private static void noSuchStreet() {
        for (int many = 0; many <= 2; many++) {
            for (int i = 0; i < 2; i++) {
                StolenHours x = new StolenHours();
                for (int told = 0; told < many; told++) {
                    Check.tell(x, 0, NONE, SMALL);
                }
                noSuchStreet(x, many - 1, i == 0);
            }
        }
    }

    private static void noSuchStreet(StolenHours x, int most, boolean either) {
        isRefusedOutside("street", x, 0, most, -2, (y, s) -> y.street(s, 0));
        isRefusedOutside("run", x, 0, most, NONE, (y, s) -> y.run(s, 0, 0, either));
        isRefusedOutside("errands", x, 0, most, NONE, (y, s) -> y.errands(s, 0, 1, either ? NONE : 0));
        isRefusedOutside("plan", x, 0, most, NONE, (y, s) -> y.plan(s, 0, either));
        isRefusedOutside("halves", x, 0, most, -1000, (y, s) -> y.halves(s, either));
        isRefusedOutside("free", x, 0, most, -2, (y, s) -> y.free(s, 0, either));
        isRefusedOutside("corner", x, 0, most, NONE, (y, s) -> y.corner(s, 0, either ? NONE : 0));
        isRefusedOutside("robbed", x, 0, most, NONE, (y, s) -> y.robbed(s, 0, NONE));
        isRefusedOutside("shared", x, 0, most, NONE, (y, s) -> y.shared(s, 0, 1));
        isRefusedOutside("gift", x, 0, most, NONE, (y, s) -> y.gift(s, 0, 1, either));
        isRefusedOutside("missed", x, 0, most, NONE, (y, s) -> y.missed(s, 0, 0));
        isRefusedOutside("wanted", x, 0, most, -2, (y, s) -> y.wanted(s, either));
        isRefusedOutside("left", x, 0, most, NONE, (y, s) -> y.left(s, 0));
        isRefusedOutside("early", x, 0, most, NONE, (y, s) -> y.early(s, 0, 0));
        isRefusedOutside("ranked", x, 0, most, NONE, (y, s) -> y.ranked(s, 0, 0));
    }

    // "there is none such (of any)", "(of either)": of 1 to 4 people.
    private static void noSuchPerson() {
        for (int people = 1; people <= 4; people++) {
            for (int i = 0; i < 2; i++) {
                boolean either = i == 0;
                int most = people - 1;
                StolenHours x = Check.withStreet(SMALL + "people " + people + ";");
                isRefusedOutside("run", x, 0, most, NONE, (y, p) -> y.run(0, p, 0, either));
                isRefusedOutside("errands", x, 0, most, NONE, (y, p) -> y.errands(0, p, 1, either ? NONE : 0));
                isRefusedOutside("plan", x, 0, most, NONE, (y, p) -> y.plan(0, p, either));
                isRefusedOutside("free", x, 0, most, -2, (y, p) -> y.free(0, p, either));
                isRefusedOutside("corner", x, 0, most, NONE, (y, p) -> y.corner(0, p, either ? NONE : 2));
                isRefusedOutside("robbed", x, 0, most, NONE, (y, p) -> y.robbed(0, p, NONE));
                isRefusedOutside("gift", x, 0, most, NONE, (y, p) -> y.gift(0, p, 1, either));
                isRefusedOutside("missed", x, 0, most, NONE, (y, p) -> y.missed(0, p, 2));
                isRefusedOutside("left", x, 0, most, NONE, (y, p) -> y.left(0, p));
                isRefusedOutside("early", x, 0, most, NONE, (y, p) -> y.early(0, p, 0));
                isRefusedOutside("ranked", x, 0, most, NONE, (y, p) -> y.ranked(0, p, 0));
            }
        }
    }

    private static StolenHours withBusiness(int many) {
        return Check.withStreet(Check.times("business 1 0 11 9;", many));
    }

    // Promise 10: "there is none such (of any)": a business.
    private static void noSuchBusiness() {
        for (int many = 0; many <= 6; many++) {
            StolenHours x = withBusiness(many);
            isRefusedOutside("run of " + many, x, 0, many - 1, NONE, (y, b) -> y.run(0, 0, b, false));
            isRefusedOutside("run cost of " + many, x, 0, many - 1, NONE, (y, b) -> y.run(0, 0, b, true));
        }
    }

    // Promises 11, 24, 28: "BUSINESS (bits)", "there is none such (of any)".
    private static void noSuchBits() {
        for (int many = 0; many <= 6; many++) {
            int most = (1 << many) - 1;
            StolenHours x = withBusiness(many);
            isRefusedOutside("errands of " + many, x, 0, most, NONE, (y, bits) -> y.errands(0, 0, bits, NONE));
            isRefusedOutside("gift of " + many, x, 0, most, NONE, (y, bits) -> y.gift(0, 0, bits, false));
            isRefusedOutside("gift cost of " + many, x, 0, most, NONE, (y, bits) -> y.gift(0, 0, bits, true));
            StolenHours his = Check.withStreet("has 0 0 11;" + Check.times("business 1 0 11 9;", many));
            isRefusedOutside("early of " + many, his, 0, most, NONE, (y, bits) -> y.early(0, 0, bits));
            for (int bits : new int[] {1 << many, 2 << many, 1 << many | 1, most | 1 << 30, most | 1 << 31, 1 << 31}) {
                Check.due("errands of bits " + bits, x.errands(0, 0, bits, 0), NONE);
                Check.due("errands cost of bits " + bits, x.errands(0, 0, bits, NONE), NONE);
                Check.due("gift of bits " + bits, x.gift(0, 0, bits, true), NONE);
                Check.due("early of bits " + bits, his.early(0, 0, bits), NONE);
            }
        }
    }

    // All six at once.
    private static void allBits() {
        StolenHours x = Check.withStreet("minutes 6;price 0 5 2;coins 0 12;has 1 0 5;" + Check.times("business 1 0 5 3;", 6));
        Check.due("errands of all", x.errands(0, 0, 63, NONE), 12);
        Check.due("gift of all", x.gift(0, 0, 63, false), 0);
        Check.due("gift cost of all", x.gift(0, 0, 63, true), 10);
        Check.due("early of all", x.early(0, 1, 63), 5);
        Check.due("plan of all", x.plan(0, 0, false), 63);
        Check.due("plan of all, much", x.plan(0, 0, true), 6);
        for (int b = 0; b < 6; b++) {
            Check.due("errands of all, " + b, x.errands(0, 0, 63, b), b);
        }
    }

    // No business at all: nothing to pay, no first minute; promise 28: "of none: 0".
    private static void noBits() {
        for (String street : new String[] {"", SMALL, "business 9 0 3 1;", "minutes 1;people 1;has 0 0 0;"}) {
            StolenHours x = Check.withStreet(street);
            Check.due("errands of none", x.errands(0, 0, 0, NONE), 0);
            for (int b = 0; b < 6; b++) {
                Check.due("errands of none, " + b, x.errands(0, 0, 0, b), NONE);
            }
            Check.due("early of none", x.early(0, 0, 0), 0);
        }
        Check.due("gift of none", Check.withStreet("has 0 0 2;").gift(0, 0, 0, false), 3);
        Check.due("gift of none costs", Check.withStreet("has 0 0 2;").gift(0, 0, 0, true), 0);
    }

    // Promise 6: "-2: there is none such (of any), or for another what".
    private static void anotherWhatOfAStreet() {
        areTheWhats("minutes 1;people 1;", 1, 1, 0);
        areTheWhats("", 12, 2, 0);
        areTheWhats("minutes 39;people 3;" + Check.times("business 1 0 0 0;", 5), 39, 3, 5);
        areTheWhats("minutes 40;people 4;" + Check.times("business 9 39 39 99;", 6), 40, 4, 6);
    }

    private static void areTheWhats(String street, int minutes, int people, int business) {
        StolenHours x = Check.withStreet(street);
        int[][] rows = {{0, 3}, {10, people}, {20, business}, {30, business}, {40, business}, {50, business},
            {100, minutes}, {200, minutes}};
        for (int what = -10; what < 360; what++) {
            boolean there = false;
            for (int[] row : rows) {
                there |= what >= row[0] && what < row[0] + row[1];
            }
            Check.due("street(0, " + what + ") of " + street + " is there", x.street(0, what) != -2, there);
        }
        for (int what : Check.outside(-1000, 1000)) {
            Check.due("street(0, " + what + ")", x.street(0, what), -2);
        }
    }

    // Promise 10: "NONE: it is too long": of each LENGTH, FROM to TO just as long, one less, one more.
    private static void runTooLong() {
        for (int length = 1; length <= 9; length++) {
            for (int from : new int[] {0, 1, 30, 31}) {
                for (int room = Math.max(1, length - 1); room <= length + 1 && from + room <= 40; room++) {
                    int to = from + room - 1;
                    boolean goes = room >= length;
                    String street = "minutes 40;price 0 39 2;business " + length + " " + from + " " + to + " 1;";
                    StolenHours x = Check.withStreet(street);
                    Check.due("run in " + street, x.run(0, 0, 0, false), goes ? from : NONE);
                    Check.due("run cost in " + street, x.run(0, 0, 0, true), goes ? 2 * length : NONE);
                    Check.due("errands in " + street, x.errands(0, 0, 1, NONE), goes ? 2 * length : NONE);
                    Check.due("errands, first, in " + street, x.errands(0, 0, 1, 0), goes ? from : NONE);
                    Check.due("ranked in " + street, x.ranked(0, 0, 0), goes ? 0 : NONE);
                    Check.due("gift in " + street, x.gift(0, 0, 1, true), goes ? 2 * length - 2 : NONE);
                    Check.due("wanted in " + street, x.wanted(0, true), goes ? Math.min(room - length + 1, length) : 0);
                }
            }
        }
    }

    // "of several the least": the minute from which on it is done.
    private static void runOfSeveralTheLeast() {
        Check.due("run, all alike", Check.withStreet("business 2 3 9 1;").run(0, 0, 0, false), 3);
        Check.due("run, two alike", Check.withStreet("price 0 11 5;price 4 4 1;price 8 8 1;business 1 0 11 1;")
            .run(0, 0, 0, false), 4);
        Check.due("run, the last one", Check.withStreet("minutes 40;price 0 38 5;business 1 0 39 1;").run(0, 0, 0, false), 39);
        Check.due("run, not behind TO", Check.withStreet("price 6 6 0;business 2 0 5 1;").run(0, 0, 0, false), 0);
        Check.due("run, not before FROM", Check.withStreet("price 0 2 0;business 2 2 5 1;").run(0, 0, 0, false), 2);
        Check.due("run, not before FROM", Check.withStreet("price 0 1 0;business 2 2 5 1;").run(0, 0, 0, false), 2);
    }

    // "The COST of MINUTES for a PERSON is PRICES of all that are not in his hands": from 0 to 81.
    private static void runCosts() {
        StolenHours x = Check.withStreet("minutes 9;people 3;price 0 8 9;has 0 0 8;has 1 4 4;business 9 0 8 1;");
        Check.due("all but one his", x.run(0, 0, 0, true), 9);
        Check.due("one his", x.run(0, 1, 0, true), 72);
        Check.due("none his", x.run(0, 2, 0, true), 81);
        Check.due("all his", Check.withStreet("minutes 9;has 1 0 8;business 9 0 8 1;").run(0, 1, 0, true), 0);
        Check.due("free of price", Check.withStreet("price 0 11 0;business 9 0 8 1;").run(0, 1, 0, true), 0);
        Check.due("without coins", Check.withStreet("coins 0 0;business 9 0 8 1;").run(0, 0, 0, true), 9);
    }

    // Promise 11: "it can't be done": "no MINUTE twice", just enough of them, one less.
    private static void errandsWithoutRoom() {
        for (int a = 1; a <= 9; a++) {
            for (int b = 1; b <= 9; b += 4) {
                for (int room = Math.max(a, b); room <= a + b + 1; room++) {
                    boolean goes = room >= a + b;
                    String street = "minutes 40;business " + a + " 3 " + (room + 2) + " 1;business " + b + " 3 " + (room + 2) + " 1;";
                    StolenHours x = Check.withStreet(street);
                    Check.due("errands in " + street, x.errands(0, 0, 3, NONE), goes ? a + b : NONE);
                    Check.due("errands 0 in " + street, x.errands(0, 0, 3, 0), goes ? 3 : NONE);
                    Check.due("errands 1 in " + street, x.errands(0, 0, 3, 1), goes ? 3 + a : NONE);
                    Check.due("gift in " + street, x.gift(0, 0, 3, true), goes ? a + b - 1 : NONE);
                    Check.due("each alone in " + street, x.errands(0, 0, 2, NONE), b);
                }
            }
        }
        StolenHours full = Check.withStreet("minutes 40;business 9 0 39 1;business 9 0 39 1;business 9 0 39 1;"
            + "business 9 0 39 1;business 4 0 39 1;business 1 0 39 1;");
        Check.due("errands of 40 minutes", full.errands(0, 0, 31, NONE), 40);
        Check.due("errands of 41 minutes", full.errands(0, 0, 63, NONE), NONE);
        Check.due("errands of 41 minutes, 0", full.errands(0, 0, 63, 0), NONE);
        Check.due("gift of 41 minutes", full.gift(0, 0, 63, true), NONE);
        Check.due("early of 41 minutes", full.early(0, 0, 63), NONE);
    }

    // Promise 11: "(NONE: not among them)".
    private static void errandsOfAnotherBusiness() {
        StolenHours x = withBusiness(3);
        for (int bits = 0; bits < 8; bits++) {
            int before = 0;
            for (int b = 0; b < 6; b++) {
                boolean among = (bits >> b & 1) == 1;
                Check.due("errands of " + bits + ", " + b, x.errands(0, 0, bits, b), among ? before : NONE);
                before += among ? 1 : 0;
            }
            for (int b : Check.outside(-1, 2)) {
                Check.due("errands of " + bits + ", " + b, x.errands(0, 0, bits, b), NONE);
            }
            for (int b : new int[] {31, 32, 33, 64}) {
                Check.due("errands of " + bits + ", " + b, x.errands(0, 0, bits, b), NONE);
            }
        }
    }

    // "the first row by numbers": of BUSINESS 0 first, then 1, and so on.
    private static void errandsFirstRow() {
        StolenHours x = Check.withStreet("minutes 5;business 2 0 4 1;business 1 0 4 1;business 2 0 4 1;");
        int[] want = {0, 2, 3};
        for (int b = 0; b < 3; b++) {
            Check.due("first row, " + b, x.errands(0, 0, 7, b), want[b]);
        }
        // only 2 and 3 are cheap: 0 takes the first of them
        StolenHours y = Check.withStreet("minutes 5;price 0 4 9;price 2 3 1;business 1 0 4 1;business 1 0 4 1;");
        Check.due("cheap row, 0", y.errands(0, 0, 3, 0), 2);
        Check.due("cheap row, 1", y.errands(0, 0, 3, 1), 3);
        // 0 may not begin before 3, so 1 does
        StolenHours z = Check.withStreet("minutes 5;business 1 3 4 1;business 1 0 4 1;");
        Check.due("later row, 0", z.errands(0, 0, 3, 0), 3);
        Check.due("later row, 1", z.errands(0, 0, 3, 1), 0);
    }

    // "of each the first MINUTE": of all six, wherever each of them is done.
    private static void errandsOfEachFromEachMinute() {
        for (int m = 0; m < 40; m++) {
            StringBuilder street = new StringBuilder("minutes 40;coins 0 99;has 1 0 39;price 0 39 2;price " + m + " " + m + " 9;");
            int last = 0;
            for (int b = 0; b < 6; b++) {
                int at = (m + 7 * b) % 40;
                last = Math.max(last, at);
                street.append("business 1 ").append(at).append(" ").append(at).append(" 20;");
            }
            StolenHours x = Check.withStreet(street.toString());
            for (int b = 0; b < 6; b++) {
                int at = (m + 7 * b) % 40;
                Check.due("first of " + b + " of all in " + street, x.errands(0, 0, 63, b), at);
                Check.due("first of " + b + " alone in " + street, x.errands(0, 0, 1 << b, b), at);
                Check.due("early of " + b + " in " + street, x.early(0, 1, 1 << b), at);
            }
            Check.due("errands of all in " + street, x.errands(0, 0, 63, NONE), 19);
            Check.due("plan in " + street, x.plan(0, 0, false), 63);
            Check.due("plan, much, in " + street, x.plan(0, 0, true), 101);
            Check.due("gift of all in " + street, x.gift(0, 0, 63, false), m);
            Check.due("gift cost of all in " + street, x.gift(0, 0, 63, true), 10);
            Check.due("early of all in " + street, x.early(0, 1, 63), last);
        }
    }

    private static void isPlan(String street, int bits, int much) {
        StolenHours x = Check.withStreet(street);
        Check.due("plan of " + street, x.plan(0, 0, false), bits);
        Check.due("plan, much, of " + street, x.plan(0, 0, true), much);
    }

    // "with COST of no more than his COINS": as many, one less, one more; "COINS ... 0 .. 99".
    private static void planByCoins() {
        for (int coins = 0; coins <= 99; coins++) {
            boolean goes = coins >= 72;
            isPlan("coins 0 " + coins + ";price 0 11 8;business 9 0 11 99;", goes ? 1 : 0, goes ? 27 : 0);
        }
        isPlan("coins 0 0;has 0 0 0;business 1 0 11 5;", 1, 5);
        isPlan("coins 0 0;price 3 3 0;business 1 0 11 5;", 1, 5);
        isPlan("coins 0 0;business 1 0 11 5;", 0, 0);
        isPlan("coins 0 1;business 1 0 11 5;business 1 0 11 5;", 1, 4);
        isPlan("coins 0 2;business 1 0 11 5;business 1 0 11 5;", 3, 8);
        // all six in forty minutes, and one more than there is room for
        String nines = "minutes 40;coins 0 99;" + Check.times("business 9 0 39 99;", 4);
        isPlan(nines + "business 3 0 39 99;business 1 0 39 99;", 63, 6 * 99 - 40);
        isPlan(nines + "business 4 0 39 99;business 1 0 39 99;", 55, 5 * 99 - 32);
        // what is earned by one doesn't pay for the other
        isPlan("coins 0 1;business 1 0 11 99;business 1 0 11 98;", 1, 98);
    }

    // No business, none that pays, none that has room: (0, 0).
    private static void planOfNothing() {
        isPlan("", 0, 0);
        isPlan("minutes 1;people 1;coins 0 0;", 0, 0);
        isPlan("business 3 0 11 0;", 0, 0);
        isPlan("business 3 0 11 2;", 0, 0);
        isPlan("business 3 0 11 3;", 0, 0);
        isPlan("business 3 0 11 4;", 1, 1);
        isPlan("business 3 0 1 99;", 0, 0);
        isPlan("has 0 0 11;business 3 0 11 0;", 0, 0);
    }

    // "of several the fewest, of these the least bits".
    private static void planOfSeveral() {
        isPlan("business 1 0 0 3;business 1 1 1 5;business 1 2 2 3;coins 0 1;", 2, 4);
        isPlan("business 1 0 11 5;business 1 0 11 5;business 1 0 11 5;coins 0 1;", 1, 4);
        isPlan("business 1 0 11 5;business 1 0 11 5;business 1 0 11 5;coins 0 2;", 3, 8);
        isPlan("business 1 0 11 4;business 1 0 11 5;business 1 0 11 5;coins 0 1;", 2, 4);
        isPlan("business 1 0 11 1;business 1 0 11 5;", 2, 4);
        isPlan("business 1 0 0 4;business 1 1 1 4;business 2 0 1 8;", 4, 6);
        isPlan("business 2 0 1 8;business 1 0 0 4;business 1 1 1 4;", 1, 6);
        isPlan("business 2 0 1 8;business 1 0 0 4;business 1 1 1 5;", 6, 7);
    }

    private static void isHalves(String street, int margin, int first) {
        StolenHours x = Check.withStreet(street);
        Check.due("halves of " + street, x.halves(0, false), margin);
        Check.due("halves, first, of " + street, x.halves(0, true), first);
    }

    // "1, 2 or 3 at once (as many as there are), all of them in all".
    private static void halvesAsManyAsThereAre() {
        isHalves("minutes 1;", 1, 1);
        isHalves("minutes 1;price 0 0 0;", 0, 1);
        isHalves("minutes 1;price 0 0 9;", 9, 1);
        isHalves("minutes 2;", 2, 2);
        isHalves("minutes 3;", 3, 3);
        // three are taken, the fourth is left; or one, and three are left
        isHalves("minutes 4;", 2, 3);
        isHalves("minutes 4;price 0 3 9;", 18, 3);
        isHalves("minutes 4;price 3 3 9;", -6, 3);
        isHalves("minutes 5;price 0 4 0;price 4 4 9;", 9, 1);
        // of 6 left over who takes has as much as the other, of 5 one more
        isHalves("minutes 8;", 2, 2);
        // whoever has to take from 4, or 8, or 40 left over doesn't get the last one
        isHalves("minutes 40;price 0 39 0;price 39 39 9;", -9, 1);
        isHalves("minutes 39;price 0 38 0;price 38 38 9;", 9, 3);
        isHalves("minutes 40;price 0 39 0;price 36 36 9;", 9, 1);
    }

    // "how many he takes first, the least of those that are best".
    private static void halvesTheLeastThatAreBest() {
        isHalves("minutes 2;price 0 1 0;", 0, 1);
        isHalves("minutes 3;price 0 2 0;price 1 1 4;", 4, 2);
        isHalves("minutes 3;price 0 2 0;price 2 2 4;", 4, 3);
        isHalves("minutes 3;price 1 2 0;", 1, 1);
        isHalves("minutes 40;price 0 39 0;", 0, 1);
    }

    private static void isFree(String street, int many, int first) {
        StolenHours x = Check.withStreet(street);
        Check.due("free of " + street, x.free(0, 0, false), many);
        Check.due("free, first, of " + street, x.free(0, 0, true), first);
    }

    // Promise 14: "how many, or (first) the first of them (NONE: none)".
    private static void freeNoneAndAll() {
        isFree("", 0, NONE);
        isFree("has 1 0 11;", 0, NONE);
        isFree("has 0 0 11;has 1 0 11;", 0, NONE);
        isFree("minutes 1;has 0 0 0;", 1, 0);
        isFree("minutes 40;has 0 0 39;", 40, 0);
        isFree("minutes 40;has 0 0 39;has 1 0 0;", 39, 1);
        isFree("minutes 40;has 0 0 39;has 1 39 39;", 39, 0);
        isFree("minutes 40;has 0 39 39;", 1, 39);
        isFree("minutes 40;has 0 0 0;", 1, 0);
    }

    // "the longest row": of several as long the first.
    private static void freeOfSeveral() {
        isFree("has 0 1 2;has 0 4 5;has 0 9 10;", 2, 1);
        isFree("has 0 1 2;has 0 4 6;has 0 9 11;", 3, 4);
        isFree("has 0 1 2;has 0 4 6;has 0 8 11;", 4, 8);
        isFree("has 0 0 11;has 1 5 5;", 6, 6);
        isFree("has 0 0 10;has 1 5 5;", 5, 0);
    }

    private static void isRow(String name, StolenHours x, boolean corner, int... row) {
        boolean none = row.length == 1 && row[0] == NONE;
        int size = none ? 0 : row.length;
        Check.due(name, corner ? x.corner(0, 0, NONE) : x.robbed(0, 0, NONE), none ? NONE : size);
        for (int k = 0; k < 5; k++) {
            Check.due(name + " " + k, corner ? x.corner(0, 0, k) : x.robbed(0, 0, k), k < size ? row[k] : NONE);
        }
    }

    private static void isCorner(String street, int... row) {
        isRow("corner of " + street, Check.withStreet(street), true, row);
    }

    private static void isRobbed(String street, int... row) {
        isRow("robbed of " + street, Check.withStreet(street), false, row);
    }

    // "the fewest MINUTES, 3 at most", "NONE: not by 3": 0, 1, 2, 3, 4; of each the first row.
    private static void cornerUpToThree() {
        isCorner("");
        isCorner("business 9 0 7 1;");
        for (int room = 2; room <= 9; room++) {
            int many = room / 2;
            int[] row = room % 2 == 0 ? new int[] {0, 2, 4} : new int[] {1, 3, 5};
            row = many > 3 ? new int[] {NONE} : java.util.Arrays.copyOf(row, many);
            isCorner("business 2 0 " + (room - 1) + " 1;", row);
        }
        isCorner("business 1 0 2 1;", 0, 1, 2);
        // two runs that end together: the shorter one tells, whichever is told first
        isCorner("business 1 3 3 1;business 3 1 3 1;", 3);
        isCorner("business 3 1 3 1;business 1 3 3 1;", 3);
        isCorner("minutes 40;business 1 39 39 1;business 9 31 39 1;", 39);
        isCorner("business 1 0 3 1;", NONE);
        isCorner("business 1 3 3 1;business 1 5 5 1;business 1 7 7 1;", 3, 5, 7);
        isCorner("business 1 3 3 1;business 1 5 5 1;business 1 7 7 1;business 1 9 9 1;", NONE);
        isCorner("business 1 3 3 1;business 1 5 5 1;business 1 7 7 1;business 1 9 9 1;has 0 5 5;", 3, 7, 9);
        isCorner("minutes 40;business 9 4 38 1;", 12, 21, 30);
        isCorner("minutes 40;business 9 4 39 1;", NONE);
    }

    // "MINUTES of which none is his (in whose hands they may be)".
    private static void cornerInWhoseHands() {
        isCorner("has 1 4 4;business 1 4 4 1;", 4);
        isCorner("has 1 3 5;business 3 3 5 1;", 3);
        isCorner("has 0 3 3;business 3 3 5 1;");
        isCorner("has 0 5 5;business 3 3 5 1;");
        isCorner("has 0 5 5;business 3 3 6 1;");
        isCorner("has 0 5 5;business 3 3 8 1;", 6);
        isCorner("has 0 2 2;has 0 6 6;business 3 3 5 1;", 3);
        isCorner("has 0 0 11;business 1 0 11 1;");
        isCorner("has 0 0 11;has 1 11 11;business 1 0 11 1;", 11);
    }

    // "the fewest of his MINUTES, 3 at most", "NONE: not by 3".
    private static void robbedUpToThree() {
        isRobbed("");
        isRobbed("has 0 0 11;");
        isRobbed("has 0 0 7;business 9 0 11 1;");
        isRobbed("has 0 0 8;business 9 0 11 1;", 0);
        isRobbed("has 0 0 9;business 9 0 11 1;", 1);
        isRobbed("has 0 0 0;business 1 0 11 1;", 0);
        isRobbed("has 0 3 4;business 1 0 11 1;", 3, 4);
        isRobbed("has 0 3 5;business 1 0 11 1;", 3, 4, 5);
        isRobbed("has 0 3 6;business 1 0 11 1;", NONE);
        isRobbed("has 0 3 6;business 1 0 5 1;", 3, 4, 5);
        isRobbed("minutes 40;has 0 4 38;business 9 0 39 1;", 12, 21, 30);
        isRobbed("minutes 40;has 0 4 39;business 9 0 39 1;", NONE);
    }

    // "without which he can do no BUSINESS by his own alone".
    private static void robbedByHisOwn() {
        isRobbed("has 0 3 4;has 1 5 5;business 3 3 5 1;");
        isRobbed("has 0 3 5;has 1 6 6;business 3 3 6 1;", 3);
        isRobbed("has 0 3 5;business 3 4 6 1;");
        isRobbed("has 0 3 6;business 3 4 6 1;", 4);
        isRobbed("has 0 0 1;has 0 5 6;business 2 0 11 1;", 0, 5);
        isRobbed("coins 0 0;has 0 5 6;business 2 0 11 0;", 5);
    }

    // Promises 15 and 22: "or the k-th MINUTE. NONE: ... not so many".
    private static void rowsAtOtherPlaces() {
        StolenHours corner = Check.withStreet("business 1 3 5 1;");
        StolenHours robbed = Check.withStreet("has 0 3 5;business 1 0 11 1;");
        StolenHours none = Check.withStreet("has 0 3 6;business 1 0 11 1;");
        for (int k : Check.outside(-1, 2)) {
            Check.due("corner " + k, corner.corner(0, 0, k), NONE);
            Check.due("robbed " + k, robbed.robbed(0, 0, k), NONE);
        }
        for (int k = -2; k < 5; k++) {
            Check.due("corner, not by 3, " + k, none.corner(0, 1, k), NONE);
            Check.due("robbed, not by 3, " + k, none.robbed(0, 0, k), NONE);
        }
    }

    // Promise 23: "NONE: they are one, or there is none such (of any)".
    private static void sharedOfOne() {
        for (int people = 1; people <= 4; people++) {
            StolenHours x = Check.withStreet("people " + people + ";business 1 0 11 1;has 0 0 11;");
            for (int a = 0; a < people; a++) {
                for (int b = 0; b < people; b++) {
                    Check.due("shared by " + a + " and " + b, x.shared(0, a, b), a == b ? NONE : 0);
                }
                for (int b : Check.outside(0, people - 1)) {
                    Check.due("shared by " + a + " and " + b, x.shared(0, a, b), NONE);
                    Check.due("shared by " + b + " and " + a, x.shared(0, b, a), NONE);
                    Check.due("shared by " + b + " and itself", x.shared(0, b, b), NONE);
                }
            }
        }
    }

    // "by MINUTES in their hands (some of the one's, some of the other's), but by neither's alone".
    private static void sharedByNeitherAlone() {
        StolenHours x = Check.withStreet("people 3;has 0 0 2;has 1 3 5;has 2 6 6;business 6 0 5 1;business 3 0 5 1;"
            + "business 4 0 5 1;business 2 2 3 1;business 7 0 6 1;business 1 2 2 0;");
        Check.due("shared by 0 and 1", x.shared(0, 0, 1), 1 + 4 + 8);
        Check.due("shared by 1 and 0", x.shared(0, 1, 0), 1 + 4 + 8);
        Check.due("shared by 0 and 2", x.shared(0, 0, 2), 0);
        Check.due("shared by 1 and 2", x.shared(0, 1, 2), 0);
        StolenHours all = Check.withStreet("minutes 2;has 0 0 0;has 1 1 1;" + Check.times("business 2 0 1 0;", 6));
        Check.due("shared, all six", all.shared(0, 0, 1), 63);
        Check.due("shared, with nobody's", Check.withStreet("has 0 0 0;has 1 2 2;business 3 0 2 1;").shared(0, 0, 1), 0);
        Check.due("shared, without business", Check.withStreet("has 0 0 0;has 1 1 1;").shared(0, 0, 1), 0);
    }

    private static void isGift(String street, int bits, int minute, int cost) {
        StolenHours x = Check.withStreet(street);
        Check.due("gift of " + street, x.gift(0, 0, bits, false), minute);
        Check.due("gift cost of " + street, x.gift(0, 0, bits, true), cost);
    }

    // Promise 24: "NONE: ... all are his": all, all but one.
    private static void giftWhereAllAreHis() {
        for (int minutes : new int[] {1, 2, 12, 39, 40}) {
            String street = "minutes " + minutes + ";business 1 0 " + (minutes - 1) + " 1;has 0 0 " + (minutes - 1) + ";";
            isGift(street, 1, NONE, NONE);
            isGift(street, 0, NONE, NONE);
            for (int other : new int[] {0, minutes / 2, minutes - 1}) {
                isGift(street + "has 1 " + other + " " + other + ";", 1, other, 0);
                isGift(street + "has 1 " + other + " " + other + ";", 0, other, 0);
            }
        }
    }

    // Promise 24: "NONE: it can't be done".
    private static void giftThatCantBe() {
        isGift("business 3 0 1 1;", 1, NONE, NONE);
        isGift("business 3 0 2 1;", 1, 0, 2);
        isGift("business 3 0 4 1;business 3 0 4 1;", 3, NONE, NONE);
        isGift("business 3 0 5 1;business 3 0 5 1;", 3, 0, 5);
        // a gift makes no room
        isGift("has 1 0 11;business 9 0 7 1;", 1, NONE, NONE);
    }

    // "of several the least": the minute by which the cost is least.
    private static void giftOfSeveral() {
        isGift("price 0 11 3;business 2 4 7 1;", 1, 4, 3);
        isGift("price 0 11 3;price 6 6 5;price 7 7 2;business 2 4 7 1;", 1, 6, 2);
        isGift("price 0 11 3;price 5 6 0;business 2 4 7 1;", 1, 0, 0);
        isGift("price 0 11 3;has 0 0 3;business 2 0 3 1;", 1, 4, 0);
        isGift("price 0 11 3;has 0 0 3;has 0 5 5;business 2 4 7 1;", 1, 4, 0);
        isGift("price 0 11 3;has 0 1 1;business 2 0 11 1;", 1, 0, 0);
        isGift("minutes 40;price 0 39 9;price 39 39 8;business 9 31 39 1;", 1, 31, 71);
        isGift("minutes 40;price 0 39 8;price 39 39 9;business 9 31 39 1;", 1, 39, 64);
        // each business by its own runs
        isGift("minutes 20;price 0 19 3;business 1 0 0 1;business 1 0 0 1;business 2 4 5 1;", 4, 4, 3);
        isGift("minutes 20;price 0 19 3;price 5 5 4;business 1 0 0 1;business 1 9 9 1;business 2 4 5 1;", 7, 5, 9);
        isGift("minutes 40;price 0 39 9;price 39 39 1;" + Check.times("business 1 0 39 1;", 5) + "business 9 31 39 1;", 63, 0, 109);
    }

    // Promise 25: "by how much his PLAN is less, if it can't be used"; "NONE: there is none such (of any)".
    private static void missedMinutes() {
        for (int minutes : new int[] {1, 12, 40}) {
            StolenHours x = Check.withStreet("minutes " + minutes + ";business 1 0 " + (minutes - 1) + " 5;");
            for (int m : Check.outside(0, minutes - 1)) {
                Check.due("missed " + m + " of " + minutes, x.missed(0, 0, m), NONE);
            }
            for (int m = 0; m < minutes; m++) {
                Check.due("missed " + m + " of " + minutes, x.missed(0, 0, m), minutes == 1 ? 4 : 0);
            }
        }
        StolenHours x = Check.withStreet("price 0 11 5;price 4 4 1;price 7 7 2;has 0 9 9;business 1 0 8 9;business 1 9 9 3;");
        int[] want = {0, 0, 0, 0, 1, 0, 0, 0, 0, 3, 0, 0};
        for (int m = 0; m < 12; m++) {
            Check.due("missed " + m, x.missed(0, 0, m), want[m]);
        }
        Check.due("missed, of another who has not", x.missed(0, 1, 9), 0);
        Check.due("missed without business", Check.withStreet("has 0 3 3;").missed(0, 0, 3), 0);
        Check.due("missed as much as there is", Check.withStreet("has 0 3 3;business 1 3 3 99;").missed(0, 0, 3), 99);
    }

    private static void isWanted(String street, int minute, int many) {
        StolenHours x = Check.withStreet(street);
        Check.due("wanted of " + street, x.wanted(0, false), minute);
        Check.due("wanted, many, of " + street, x.wanted(0, true), many);
    }

    // Promise 26: "the MINUTE (NONE: none is), or (many) in how many".
    private static void wantedNone() {
        isWanted("", NONE, 0);
        isWanted("business 2 3 3 1;", NONE, 0);
        isWanted("business 9 0 7 1;", NONE, 0);
        isWanted("business 9 0 8 1;", 0, 1);
        isWanted("business 1 0 0 1;", 0, 1);
        isWanted("minutes 40;business 1 39 39 1;", 39, 1);
        isWanted("minutes 1;business 1 0 0 1;", 0, 1);
    }

    // "in most runs in which any BUSINESS could be done (by whomever ...), of several the least".
    private static void wantedOfSeveral() {
        isWanted("business 2 3 6 1;", 4, 2);
        isWanted("business 3 3 6 1;", 4, 2);
        isWanted("business 3 3 7 1;", 5, 3);
        isWanted("business 1 3 6 1;business 1 5 8 1;", 5, 2);
        isWanted("business 1 3 3 1;business 1 8 8 1;", 3, 1);
        isWanted("has 0 0 5;has 1 6 11;coins 0 0;coins 1 0;business 2 5 6 1;", 5, 1);
        isWanted("minutes 40;" + Check.times("business 9 0 39 1;", 6), 8, 54);
    }

    // Promise 27: "COINS he has when his PLAN is done (less COST, and WORTH more)".
    private static void leftCoins() {
        Check.due("left without business", Check.withStreet("coins 0 0;").left(0, 0), 0);
        Check.due("left, all as at first", Check.withStreet("").left(0, 1), 20);
        Check.due("left of 99", Check.withStreet("coins 0 99;has 0 0 0;business 1 0 0 99;").left(0, 0), 198);
        Check.due("left when all is paid", Check.withStreet("coins 0 3;business 3 0 2 4;").left(0, 0), 4);
        Check.due("left when it can't be paid", Check.withStreet("coins 0 2;business 3 0 2 4;").left(0, 0), 2);
        Check.due("left when it isn't worth it", Check.withStreet("coins 0 5;business 3 0 2 3;").left(0, 0), 5);
    }

    private static void isEarly(String street, int bits, int last) {
        Check.due("early of " + bits + " in " + street, Check.withStreet(street).early(0, 0, bits), last);
    }

    // "the last MINUTE used, the least there can be (of none: 0)".
    private static void earlyOfNone() {
        isEarly("", 0, 0);
        isEarly("has 0 5 11;business 1 5 11 1;", 0, 0);
        isEarly("has 0 5 11;business 1 5 11 1;", 1, 5);
        isEarly("has 0 0 11;business 1 0 11 1;", 1, 0);
        isEarly("minutes 40;has 0 39 39;business 1 0 39 1;", 1, 39);
        isEarly("minutes 40;has 0 0 39;business 9 31 39 1;", 1, 39);
        isEarly("has 0 0 11;business 1 0 3 1;business 1 0 3 1;", 3, 1);
        isEarly("has 0 0 11;business 1 3 3 1;business 1 0 11 1;", 3, 3);
        isEarly("has 0 0 11;business 1 3 3 1;business 4 0 11 1;", 3, 7);
        isEarly("has 0 0 11;business 1 3 3 1;business 3 0 11 1;", 3, 3);
    }

    // "by his own MINUTES alone"; promise 28: "NONE: it can't be done so".
    private static void earlyByHisOwnAlone() {
        isEarly("price 0 11 0;business 1 0 11 1;", 1, NONE);
        isEarly("has 1 0 11;business 1 0 11 1;", 1, NONE);
        isEarly("has 0 0 2;business 4 0 11 1;", 1, NONE);
        isEarly("has 0 0 3;business 4 0 11 1;", 1, 3);
        isEarly("has 0 0 3;business 4 1 11 1;", 1, NONE);
        isEarly("has 0 0 3;business 2 0 11 1;business 3 0 11 1;", 3, NONE);
        isEarly("has 0 0 4;business 2 0 11 1;business 3 0 11 1;", 3, 4);
        isEarly("has 0 0 1;has 0 3 5;business 2 0 11 1;business 3 0 11 1;", 3, 5);
        isEarly("has 0 0 11;business 4 0 2 1;", 1, NONE);
        // coins are no matter
        isEarly("coins 0 0;has 0 0 3;business 4 0 11 0;", 1, 3);
    }

    // Promise 29: "the k-th. NONE: not so many".
    private static void rankedNotSoMany() {
        for (int many = 0; many <= 6; many++) {
            StolenHours x = withBusiness(many);
            for (int k = 0; k < many; k++) {
                Check.due("ranked " + k + " of " + many, x.ranked(0, 0, k), k);
            }
            for (int k : Check.outside(0, many - 1)) {
                Check.due("ranked " + k + " of " + many, x.ranked(0, 0, k), NONE);
            }
        }
        // what can't be done is not ranked
        StolenHours x = Check.withStreet("business 2 0 0 1;business 2 0 1 1;business 3 0 1 1;business 1 0 0 1;");
        int[] want = {3, 1, NONE, NONE};
        for (int k = 0; k < 4; k++) {
            Check.due("ranked " + k, x.ranked(0, 0, k), want[k]);
        }
    }

    // "the least first, of several the least number".
    private static void rankedOfSeveral() {
        StolenHours x = Check.withStreet("has 0 6 7;coins 0 0;business 3 0 2 1;business 2 0 2 1;business 3 0 5 1;"
            + "business 2 6 7 1;business 1 7 7 1;business 2 1 3 1;");
        int[] want = {3, 4, 1, 5, 0, 2};
        for (int k = 0; k < 6; k++) {
            Check.due("ranked of several, " + k, x.ranked(0, 0, k), want[k]);
        }
    }

    // "MINUTES, 1 .. 40", "PEOPLE, 1 .. 4", "at most 6": one minute, and more people and business than that.
    private static void oneMinuteForAll() {
        StolenHours x = Check.withStreet("minutes 1;people 4;coins 3 9;price 0 0 4;has 3 0 0;"
            + Check.times("business 1 0 0 2;", 5) + "business 1 0 0 9;");
        for (int p = 0; p < 4; p++) {
            int cost = p == 3 ? 0 : 4;
            for (int b = 0; b < 6; b++) {
                String of = " of " + p + ", " + b;
                Check.due("run" + of, x.run(0, p, b, false), 0);
                Check.due("run cost" + of, x.run(0, p, b, true), cost);
                Check.due("errands" + of, x.errands(0, p, 1 << b, NONE), cost);
                Check.due("gift" + of, x.gift(0, p, 1 << b, false), p == 3 ? NONE : 0);
                Check.due("gift cost" + of, x.gift(0, p, 1 << b, true), p == 3 ? NONE : 0);
                Check.due("early" + of, x.early(0, p, 1 << b), p == 3 ? 0 : NONE);
            }
            Check.due("plan of " + p, x.plan(0, p, false), 32);
            Check.due("left of " + p, x.left(0, p), p == 3 ? 18 : 25);
            Check.due("missed of " + p, x.missed(0, p, 0), p == 3 ? 9 : 5);
            Check.due("corner of " + p, x.corner(0, p, NONE), p == 3 ? 0 : 1);
            Check.due("robbed of " + p, x.robbed(0, p, NONE), p == 3 ? 1 : 0);
        }
        Check.due("wanted, many", x.wanted(0, true), 6);
    }
}
