/** Promises 6, 10 to 15 and 22 to 29: a street as told. */
public final class StreetTest {
    private static final int NONE = StolenHours.NONE;
    private static final int LEAST = Integer.MIN_VALUE;
    private static final int MOST = Integer.MAX_VALUE;
    /** Prices 2, but 5 of minutes 3 and 4; 0 and 1 are person 0's, 5 and 6 person 1's; coins 9, 5;
     * business of 2 anywhere, worth 7, of 3 from 2 to 8, worth 12, of 1 in 4, worth 3. */
    private static final String SAMPLE = Check.STREET;

    private StreetTest() {
    }

    public static void main(String[] args) {
        toldStreet();
        laterOnesStrike();
        runs();
        errands();
        plans();
        leftAndMissed();
        halves();
        free();
        corner();
        robbed();
        shared();
        gift();
        wanted();
        early();
        ranked();
        twoStreets();
        nothingThere();
        Check.finish("StreetTest");
    }

    private static void isStreet(StolenHours x, int... want) {
        for (int i = 0; i < want.length; i += 2) {
            Check.due("street " + want[i], x.street(0, want[i]), want[i + 1]);
        }
    }

    private static void toldStreet() {
        isStreet(Check.withStreet(""), 0, 12, 1, 2, 2, 0, 10, 20, 11, 20, 12, -2, 20, -2, 30, -2, 40, -2, 50, -2,
            100, 1, 111, 1, 112, -2, 200, NONE, 211, NONE, 212, -2);
        StolenHours x = Check.withStreet(SAMPLE);
        isStreet(x, 0, 10, 1, 2, 2, 3, 10, 9, 11, 5, 20, 2, 21, 3, 22, 1, 30, 0, 31, 2, 32, 4, 40, 9, 41, 8, 42, 4,
            50, 7, 51, 12, 52, 3, 100, 2, 103, 5, 104, 5, 105, 2, 109, 2, 200, 0, 201, 0, 202, NONE, 205, 1, 206, 1);
        isStreet(x, -1, -2, 3, -2, 9, -2, 12, -2, 23, -2, 33, -2, 43, -2, 53, -2, 60, -2, 99, -2, 110, -2, 199, -2,
            210, -2, 300, -2, LEAST, -2, MOST, -2);
        Check.due("street 1", x.street(1, 0), -2);
        Check.due("street -1", x.street(-1, 0), -2);
        isStreet(Check.withStreet("minutes 40;people 4;coins 3 99;coins 2 0;price 39 39 9;price 0 0 0;has 3 39 39;"
            + "business 9 31 39 99;business 1 0 0 0;"), 0, 40, 1, 4, 13, 99, 12, 0, 10, 20, 139, 9, 100, 0, 138, 1,
            239, 3, 238, NONE, 20, 9, 30, 31, 40, 39, 50, 99, 21, 1, 51, 0);
    }

    private static void laterOnesStrike() {
        isStreet(Check.withStreet("minutes 3;minutes 20;people 4;people 3;coins 1 5;coins 1 6;price 0 9 5;price 4 6 2;"
            + "has 0 0 9;has 1 5 14;business 1 0 0 1;business 1 0 0 1;"), 0, 20, 1, 3, 11, 6, 103, 5, 104, 2, 106, 2,
            107, 5, 110, 1, 204, 0, 205, 1, 214, 1, 215, NONE, 2, 2);
    }

    private static void runs() {
        StolenHours x = Check.withStreet(SAMPLE);
        int[][] first = {{0, 5, 4}, {5, 5, 4}};
        int[][] cost = {{0, 6, 5}, {0, 2, 5}};
        for (int p = 0; p < 2; p++) {
            for (int b = 0; b < 3; b++) {
                Check.due("run " + p + " " + b, x.run(0, p, b, false), first[p][b]);
                Check.due("run cost " + p + " " + b, x.run(0, p, b, true), cost[p][b]);
            }
        }
        for (boolean what : new boolean[] {false, true}) {
            Check.due("run of person 2", x.run(0, 2, 0, what), NONE);
            Check.due("run of person -1", x.run(0, -1, 0, what), NONE);
            Check.due("run of business 3", x.run(0, 0, 3, what), NONE);
            Check.due("run of business -1", x.run(0, 0, -1, what), NONE);
            Check.due("run in street 1", x.run(1, 0, 0, what), NONE);
        }
        StolenHours y = Check.withStreet("minutes 12;business 4 3 5 1;business 3 3 5 1;coins 0 0;");
        Check.due("run too long", y.run(0, 0, 0, false), NONE);
        Check.due("run cost too long", y.run(0, 0, 0, true), NONE);
        Check.due("run just as long", y.run(0, 0, 1, false), 3);
        Check.due("run without coins", y.run(0, 0, 1, true), 3);
    }

    private static void isErrands(StolenHours x, int person, int set, int cost, int... firsts) {
        Check.due("errands " + person + " " + set, x.errands(0, person, set, NONE), cost);
        for (int b = 0; b < 6; b++) {
            int want = b < firsts.length ? firsts[b] : NONE;
            Check.due("errands " + person + " " + set + " " + b, x.errands(0, person, set, b), want);
        }
        Check.due("errands k 6", x.errands(0, person, set, 6), NONE);
        Check.due("errands k -2", x.errands(0, person, set, -2), NONE);
        Check.due("errands k most", x.errands(0, person, set, MOST), NONE);
    }

    private static void errands() {
        StolenHours x = Check.withStreet(SAMPLE);
        isErrands(x, 0, 0, 0);
        isErrands(x, 0, 1, 0, 0);
        isErrands(x, 0, 2, 6, NONE, 5);
        isErrands(x, 0, 7, 11, 0, 5, 4);
        isErrands(x, 1, 3, 6, 0, 5);
        isErrands(x, 1, 5, 5, 5, NONE, 4);
        isErrands(x, 0, 8, NONE);
        isErrands(x, 0, -1, NONE);
        isErrands(x, 2, 1, NONE);
        isErrands(x, -1, 1, NONE);
        Check.due("errands in street 1", x.errands(1, 0, 1, NONE), NONE);
        StolenHours y = Check.withStreet("minutes 4;business 2 0 2 1;business 2 0 2 1;business 2 0 3 1;business 9 0 3 1;");
        isErrands(y, 0, 3, NONE);
        isErrands(y, 0, 5, 4, 0, NONE, 2);
        isErrands(y, 0, 6, 4, NONE, 0, 2);
        isErrands(y, 0, 8, NONE);
        // the first row by numbers looks at business 0 before business 1
        StolenHours z = Check.withStreet("minutes 6;price 0 5 1;business 1 0 5 1;business 2 0 5 1;");
        isErrands(z, 0, 3, 3, 0, 1);
        // no minute twice, though both are cheapest in the same ones
        StolenHours both = Check.withStreet("minutes 5;price 0 4 4;price 2 2 0;business 1 0 4 1;business 1 0 4 1;");
        isErrands(both, 0, 3, 4, 0, 2);
        // the cheapest is not what is cheapest one by one
        StolenHours far = Check.withStreet("minutes 6;price 0 1 9;price 2 2 0;price 3 3 1;price 4 5 9;business 1 2 3 1;"
            + "business 2 0 5 1;");
        isErrands(far, 0, 3, 10, 2, 3);
        StolenHours six = Check.withStreet("minutes 40;price 0 39 9;" + Check.times("business 6 0 39 1;", 6));
        isErrands(six, 0, 63, 324, 0, 6, 12, 18, 24, 30);
        isErrands(six, 0, 64, NONE);
        isErrands(six, 0, MOST, NONE);
        Check.due("early 64", six.early(0, 0, 64), NONE);
        Check.due("gift 64", six.gift(0, 0, 64, true), NONE);
    }

    private static void isPlan(StolenHours x, int person, int bits, int much) {
        Check.due("plan " + person, x.plan(0, person, false), bits);
        Check.due("plan much " + person, x.plan(0, person, true), much);
    }

    private static void plans() {
        StolenHours x = Check.withStreet(SAMPLE);
        isPlan(x, 0, 3, 13);
        // person 1 could do both for 6, but has 5
        isPlan(x, 1, 2, 10);
        isPlan(x, 2, NONE, NONE);
        isPlan(x, -1, NONE, NONE);
        Check.due("plan in street 1", x.plan(1, 0, false), NONE);
        Check.due("plan much in street 1", x.plan(1, 0, true), NONE);
        isPlan(Check.withStreet(""), 0, 0, 0);
        isPlan(Check.withStreet("business 2 0 5 1;"), 0, 0, 0);
        isPlan(Check.withStreet("business 2 0 5 2;"), 0, 0, 0);
        isPlan(Check.withStreet("business 2 0 5 3;coins 0 2;"), 0, 1, 1);
        isPlan(Check.withStreet("business 2 0 5 3;coins 0 1;"), 0, 0, 0);
        isPlan(Check.withStreet("business 9 0 5 99;"), 0, 0, 0);
        // of as much the fewest, of these the least bits
        isPlan(Check.withStreet("business 1 0 0 3;business 1 1 1 3;business 1 2 2 5;coins 0 1;"), 0, 4, 4);
        isPlan(Check.withStreet("business 1 0 0 3;business 1 1 1 3;business 2 2 3 6;coins 0 2;"), 0, 4, 4);
        isPlan(Check.withStreet("business 1 0 0 3;business 1 1 1 3;business 2 2 3 6;business 4 2 5 8;coins 0 4;"), 0, 7, 8);
        isPlan(Check.withStreet("business 1 0 0 3;business 1 1 1 3;business 2 2 3 8;coins 0 2;"), 0, 4, 6);
        isPlan(Check.withStreet("business 1 0 0 5;business 1 0 0 5;"), 0, 1, 4);
        isPlan(Check.withStreet("business 1 0 0 5;business 1 0 0 6;"), 0, 2, 5);
        isPlan(Check.withStreet("business 1 0 0 3;business 1 1 1 3;business 1 2 2 5;business 2 0 1 5;"), 0, 7, 8);
        isPlan(Check.withStreet("business 1 0 0 2;business 1 1 1 2;business 2 0 1 4;"), 0, 4, 2);
    }

    private static void leftAndMissed() {
        StolenHours x = Check.withStreet(SAMPLE);
        Check.due("left 0", x.left(0, 0), 22);
        Check.due("left 1", x.left(0, 1), 15);
        Check.due("left 2", x.left(0, 2), NONE);
        Check.due("left -1", x.left(0, -1), NONE);
        Check.due("left in street 1", x.left(1, 0), NONE);
        Check.due("left without business", Check.withStreet("coins 1 7;").left(0, 1), 7);
        // without 0 the business of 2 is done from 1 on, for 2; without 1 from 8 on, for 4, which both together
        // can't pay; without 6 that of 3 costs 12, too much; without 7 it costs 9
        int[] missed = {2, 7, 0, 0, 0, 0, 6, 3, 0, 0};
        for (int m = 0; m < 10; m++) {
            Check.due("missed " + m, x.missed(0, 0, m), missed[m]);
        }
        Check.due("missed 10", x.missed(0, 0, 10), NONE);
        Check.due("missed -1", x.missed(0, 0, -1), NONE);
        Check.due("missed of person 2", x.missed(0, 2, 0), NONE);
        Check.due("missed in street 1", x.missed(1, 0, 0), NONE);
        Check.due("missed in street -1", x.missed(-1, 0, 0), NONE);
        StolenHours only = Check.withStreet("minutes 40;business 1 39 39 30;");
        Check.due("missed 39", only.missed(0, 0, 39), 29);
        Check.due("missed 38", only.missed(0, 0, 38), 0);
    }

    private static void isHalves(String street, int margin, int first) {
        StolenHours x = Check.withStreet(street);
        Check.due("halves of " + street, x.halves(0, false), margin);
        Check.due("halves first of " + street, x.halves(0, true), first);
    }

    private static void halves() {
        isHalves("minutes 1;price 0 0 4;", 4, 1);
        isHalves("minutes 3;price 1 1 2;price 2 2 3;", 6, 3);
        isHalves("minutes 4;price 1 1 2;price 2 2 3;price 3 3 7;", -1, 3);
        isHalves("minutes 4;price 1 1 2;price 2 2 3;price 3 3 6;", 0, 3);
        isHalves("minutes 5;price 0 4 0;", 0, 1);
        isHalves("minutes 2;price 0 1 0;", 0, 1);
        isHalves("minutes 2;price 0 0 3;price 1 1 0;", 3, 1);
        isHalves("minutes 6;price 0 5 1;", 0, 1);
        isHalves("minutes 4;", 2, 3);
        isHalves("minutes 5;", 1, 3);
        StolenHours x = new StolenHours();
        Check.due("halves of street 0", x.halves(0, false), -1000);
        Check.due("halves of street 0", x.halves(0, true), -1000);
        Check.due("halves of street -1", x.halves(-1, true), -1000);
    }

    private static void isFree(String street, int person, int many, int first) {
        StolenHours x = Check.withStreet(street);
        Check.due("free " + person + " of " + street, x.free(0, person, false), many);
        Check.due("free first " + person + " of " + street, x.free(0, person, true), first);
    }

    private static void free() {
        isFree(SAMPLE, 0, 2, 0);
        isFree(SAMPLE, 1, 2, 5);
        isFree(SAMPLE, 2, -2, -2);
        isFree(SAMPLE, -1, -2, -2);
        isFree("", 0, 0, NONE);
        isFree("has 0 0 1;has 0 3 4;has 0 8 8;", 0, 2, 0);
        isFree("has 0 0 1;has 0 3 4;has 0 9 11;", 0, 3, 9);
        isFree("minutes 40;has 1 0 39;", 1, 40, 0);
        isFree("minutes 40;has 1 0 39;has 0 20 20;", 1, 20, 0);
        StolenHours x = Check.withStreet("");
        Check.due("free in street 1", x.free(1, 0, false), -2);
        Check.due("free first in street 1", x.free(1, 0, true), -2);
    }

    private static void isRow(String name, int[] answers, int... row) {
        int size = row.length == 1 && row[0] == NONE ? NONE : row.length;
        Check.due(name + " k -2", answers[0], NONE);
        Check.due(name, answers[1], size);
        for (int k = 0; k < 5; k++) {
            Check.due(name + " " + k, answers[k + 2], k < size ? row[k] : NONE);
        }
    }

    private static void isCorner(String street, int person, int... row) {
        StolenHours x = Check.withStreet(street);
        int[] answers = new int[7];
        for (int k = -2; k < 5; k++) {
            answers[k + 2] = x.corner(0, person, k);
        }
        isRow("corner " + person + " of " + street, answers, row);
    }

    private static void corner() {
        isCorner(SAMPLE, 0, NONE);
        isCorner("minutes 8;has 0 3 3;business 2 0 7 1;", 0, 1, 4, 6);
        isCorner("minutes 8;has 0 3 3;business 2 0 7 1;", 1, NONE);
        isCorner("minutes 8;has 0 3 3;business 2 0 7 1;", 2, NONE);
        isCorner("minutes 8;has 0 3 3;business 2 0 7 1;", -1, NONE);
        isCorner("business 9 0 3 1;", 0);
        isCorner("", 0);
        isCorner("has 0 2 2;business 3 0 4 1;", 0);
        isCorner("has 1 2 2;business 3 0 4 1;", 0, 2);
        isCorner("business 1 5 5 1;business 1 9 9 1;", 0, 5, 9);
        isCorner("business 3 5 7 1;business 2 1 2 1;business 1 11 11 0;", 1, 1, 5, 11);
        isCorner("business 1 0 3 1;", 0, NONE);
        isCorner("minutes 40;business 9 0 39 1;", 0, NONE);
        isCorner("minutes 40;business 9 4 39 1;has 0 20 20;", 0, 11, 22, 31);
        isCorner("business 4 0 6 1;business 2 2 3 1;", 0, 3);
        Check.due("corner in street 1", Check.withStreet("").corner(1, 0, NONE), NONE);
    }

    private static void isRobbed(String street, int person, int... row) {
        StolenHours x = Check.withStreet(street);
        int[] answers = new int[7];
        for (int k = -2; k < 5; k++) {
            answers[k + 2] = x.robbed(0, person, k);
        }
        isRow("robbed " + person + " of " + street, answers, row);
    }

    private static void robbed() {
        isRobbed(SAMPLE, 0, 0);
        isRobbed(SAMPLE, 1, 5);
        isRobbed(SAMPLE, 2, NONE);
        isRobbed(SAMPLE, -1, NONE);
        isRobbed("has 0 0 6;business 2 0 6 1;", 0, 1, 3, 5);
        isRobbed("has 0 0 7;business 2 0 7 1;", 0, NONE);
        isRobbed("has 0 0 7;business 2 0 7 1;", 1);
        isRobbed("has 0 0 6;business 2 0 5 1;", 0, 0, 2, 4);
        isRobbed("has 0 0 1;has 0 5 6;has 1 3 4;business 2 0 9 1;business 1 6 6 0;", 0, 0, 6);
        isRobbed("has 0 0 11;business 9 0 3 1;", 0);
        Check.due("robbed in street 1", Check.withStreet("").robbed(1, 0, NONE), NONE);
    }

    private static void shared() {
        StolenHours x = Check.withStreet("minutes 6;people 3;has 0 0 1;has 1 2 3;business 4 0 5 1;business 2 0 5 2;"
            + "business 3 1 4 3;business 2 1 2 4;business 5 0 5 1;business 9 0 5 0;");
        Check.due("shared 0 1", x.shared(0, 0, 1), 13);
        Check.due("shared 1 0", x.shared(0, 1, 0), 13);
        Check.due("shared 0 2", x.shared(0, 0, 2), 0);
        Check.due("shared 1 1", x.shared(0, 1, 1), NONE);
        Check.due("shared 0 3", x.shared(0, 0, 3), NONE);
        Check.due("shared -1 0", x.shared(0, -1, 0), NONE);
        Check.due("shared in street 1", x.shared(1, 0, 1), NONE);
        Check.due("shared of what is apart", Check.withStreet(SAMPLE).shared(0, 0, 1), 0);
        Check.due("shared of the other's alone", Check.withStreet("has 0 0 0;has 1 1 3;business 2 0 3 1;").shared(0, 0, 1), 0);
    }

    private static void isGift(String street, int person, int set, int minute, int cost) {
        StolenHours x = Check.withStreet(street);
        Check.due("gift " + person + " " + set + " of " + street, x.gift(0, person, set, false), minute);
        Check.due("gift cost " + person + " " + set + " of " + street, x.gift(0, person, set, true), cost);
    }

    private static void gift() {
        isGift(SAMPLE, 0, 2, 4, 4);
        isGift(SAMPLE, 0, 1, 2, 0);
        isGift(SAMPLE, 0, 0, 2, 0);
        isGift(SAMPLE, 0, 4, 4, 0);
        isGift(SAMPLE, 0, 7, 4, 6);
        isGift(SAMPLE, 1, 3, 0, 4);
        isGift(SAMPLE, 0, 8, NONE, NONE);
        isGift(SAMPLE, 0, -1, NONE, NONE);
        isGift(SAMPLE, 2, 1, NONE, NONE);
        isGift(SAMPLE, -1, 1, NONE, NONE);
        isGift("minutes 2;has 0 0 1;business 1 0 1 1;", 0, 1, NONE, NONE);
        isGift("minutes 2;has 0 0 1;business 1 0 1 1;", 1, 1, 0, 0);
        isGift("minutes 4;business 3 0 1 1;", 0, 1, NONE, NONE);
        isGift("minutes 4;price 0 3 0;business 1 2 3 1;has 0 0 0;", 0, 1, 1, 0);
        // the dearer minute that is needed, not the first one
        isGift("minutes 4;price 2 2 3;business 3 0 3 1;", 0, 1, 2, 2);
        // a run that would be dear becomes cheap
        isGift("minutes 6;price 0 2 2;price 4 4 9;business 1 0 2 1;business 1 4 4 1;", 0, 3, 4, 2);
        isGift("minutes 6;price 0 2 2;price 4 4 9;business 1 0 4 1;", 0, 1, 0, 0);
        Check.due("gift in street 1", Check.withStreet("").gift(1, 0, 0, false), NONE);
    }

    private static void isWanted(String street, int minute, int many) {
        StolenHours x = Check.withStreet(street);
        Check.due("wanted of " + street, x.wanted(0, false), minute);
        Check.due("wanted many of " + street, x.wanted(0, true), many);
    }

    private static void wanted() {
        isWanted(SAMPLE, 4, 6);
        isWanted("", NONE, 0);
        isWanted("business 9 0 7 1;", NONE, 0);
        isWanted("business 1 2 5 0;", 2, 1);
        isWanted("business 3 2 6 0;", 4, 3);
        isWanted("business 3 2 6 0;has 0 4 4;business 2 9 10 1;business 1 9 10 1;business 1 9 10 1;", 4, 3);
        isWanted("business 3 2 6 0;business 2 9 11 1;business 1 9 10 1;business 1 9 10 1;", 10, 4);
        StolenHours x = Check.withStreet("");
        Check.due("wanted of street 1", x.wanted(1, false), -2);
        Check.due("wanted many of street 1", x.wanted(1, true), -2);
        Check.due("wanted of street -1", x.wanted(-1, false), -2);
    }

    private static void early() {
        StolenHours x = Check.withStreet("minutes 10;has 0 1 6;business 2 0 9 1;business 3 2 8 1;business 9 0 5 1;");
        int[] want = {0, 2, 4, 5, NONE, NONE, NONE, NONE, NONE};
        for (int set = 0; set < 9; set++) {
            Check.due("early " + set, x.early(0, 0, set), want[set]);
        }
        Check.due("early of nothing by another", x.early(0, 1, 0), 0);
        Check.due("early by another", x.early(0, 1, 1), NONE);
        Check.due("early -1", x.early(0, 0, -1), NONE);
        Check.due("early of person 2", x.early(0, 2, 0), NONE);
        Check.due("early of person -1", x.early(0, -1, 0), NONE);
        Check.due("early in street 1", x.early(1, 0, 0), NONE);
        StolenHours one = Check.withStreet("minutes 4;has 0 0 0;has 0 2 3;business 2 0 3 1;business 1 0 3 1;");
        Check.due("early in the last", one.early(0, 0, 3), 3);
        Check.due("early in the first", one.early(0, 0, 2), 0);
        StolenHours both = Check.withStreet("has 0 3 3;business 1 0 3 1;business 1 0 3 1;");
        Check.due("early of both", both.early(0, 0, 3), NONE);
        Check.due("early of either", both.early(0, 0, 2), 3);
    }

    private static void isRanked(String street, int person, int... row) {
        StolenHours x = Check.withStreet(street);
        for (int k = -2; k < 7; k++) {
            int want = k >= 0 && k < row.length ? row[k] : NONE;
            Check.due("ranked " + person + " " + k + " of " + street, x.ranked(0, person, k), want);
        }
    }

    private static void ranked() {
        isRanked(SAMPLE, 0, 0, 2, 1);
        isRanked(SAMPLE, 1, 0, 1, 2);
        isRanked(SAMPLE, 2);
        isRanked(SAMPLE, -1);
        isRanked("", 0);
        isRanked("business 1 0 3 1;business 1 2 2 1;", 0, 0, 1);
        isRanked("business 9 0 3 1;business 1 0 0 1;", 0, 1);
        isRanked("coins 0 0;business 3 0 3 1;business 2 0 3 1;business 1 0 3 1;", 0, 2, 1, 0);
        isRanked("business 2 0 3 1;business 1 0 3 1;business 2 3 5 1;business 1 7 7 1;has 0 3 4;", 0, 1, 2, 0, 3);
        Check.due("ranked in street 1", Check.withStreet("").ranked(1, 0, 0), NONE);
    }

    /** What was asked of one street is nothing to the other. */
    private static void twoStreets() {
        StolenHours x = Check.withStreet("minutes 8;coins 0 50;has 0 0 7;business 2 0 7 9;business 1 7 7 2;");
        Check.due("a second street", Check.tell(x, 0, NONE, "minutes 9;coins 0 1;price 0 8 3;business 2 0 8 4;"), 1);
        for (int time = 0; time < 2; time++) {
            Check.due("robbed there", x.robbed(0, 0, NONE), NONE);
            Check.due("robbed here", x.robbed(1, 0, NONE), 0);
            Check.due("corner there", x.corner(0, 0, NONE), 0);
            Check.due("corner here", x.corner(1, 0, NONE), NONE);
            Check.due("plan there", x.plan(0, 0, false), 3);
            Check.due("plan here", x.plan(1, 0, false), 0);
            Check.due("left there", x.left(0, 0), 61);
            Check.due("left here", x.left(1, 0), 1);
            Check.due("run there", x.run(0, 0, 1, false), 7);
            Check.due("run here", x.run(1, 0, 1, false), NONE);
            Check.due("errands there", x.errands(0, 0, 3, NONE), 0);
            Check.due("errands here", x.errands(1, 0, 1, NONE), 6);
            Check.due("gift there", x.gift(0, 1, 3, true), 2);
            Check.due("gift here", x.gift(1, 0, 1, true), 3);
            Check.due("early there", x.early(0, 0, 3), 7);
            Check.due("early here", x.early(1, 0, 1), NONE);
            Check.due("halves there", x.halves(0, false), 2);
            Check.due("halves here", x.halves(1, false), 9);
        }
    }

    private static void nothingThere() {
        StolenHours x = new StolenHours();
        Check.due("run", x.run(0, 0, 0, true), NONE);
        Check.due("errands", x.errands(0, 0, 0, NONE), NONE);
        Check.due("plan", x.plan(0, 0, false), NONE);
        Check.due("free", x.free(0, 0, false), -2);
        Check.due("corner", x.corner(0, 0, NONE), NONE);
        Check.due("robbed", x.robbed(0, 0, NONE), NONE);
        Check.due("shared", x.shared(0, 0, 1), NONE);
        Check.due("gift", x.gift(0, 0, 0, true), NONE);
        Check.due("missed", x.missed(0, 0, 0), NONE);
        Check.due("wanted", x.wanted(0, true), -2);
        Check.due("left", x.left(0, 0), NONE);
        Check.due("early", x.early(0, 0, 0), NONE);
        Check.due("ranked", x.ranked(0, 0, 0), NONE);
    }
}
