/** Promises 1 to 5 and 34 to 36 where they tell a bound or a refusal: a method for each such sentence. */
public final class TapeBoundsTest {
    private static final int NONE = StolenHours.NONE;
    private static final int BLANK = 32 << 24 | 32 << 16 | 32 << 8 | 32;
    /** A text of each sort, with one or two of all. */
    private static final String[] TEXTS = {Check.STREET, "buy 0 2;do 1 2 3;", "gone 5;there 3;", "hands 4;worth 0 1 5;"};
    private static final String[] OTHERS = {"minutes 40;people 4;has 3 39 39;", "dearer 7;", "there 0;", "hands 6;worth 5 5 9;"};

    private TapeBoundsTest() {
    }

    public static void main(String[] args) {
        noStreetsAtFirst();
        noYearsLogsSwapsAtFirst();
        noImagesAtFirst();
        twentyBytesHighestFirst();
        feedUpToSixHundred();
        nothingComesBeyond();
        endAtItsBounds();
        endRefusedLeavesTheTape();
        theFirstBytesAlone();
        theTapeIsTaken();
        aFurtherOneOrInThePlaceOfOne();
        aTextLeavesTheOthers();
        noneSuch();
        asManyAsMayBe();
        noSuchSort();
        aFaultTellsNothing();
        theLatestFault();
        faultOfAnotherWhat();
        countOfAnotherSort();
        imagesAtTheirBounds();
        anImageRefusedMakesNone();
        againRefusedLeavesAll();
        imagesOfNothingAndOfAll();
        imagesAsTheyWere();
        fiveHundredAndTwelveCalls();
        Check.finish("TapeBoundsTest");
    }

    private static void isNone(String call, long got) {
        Check.due(call + " of a new object", got, NONE);
    }

    private static void isMissing(String call, long got) {
        Check.due(call + " of a new object", got, -2);
    }

    // Promise 1: "No STREETS, ...".
    private static void noStreetsAtFirst() {
        StolenHours x = new StolenHours();
        isMissing("street", x.street(0, 0));
        isMissing("state", x.state(0, 0, 0, 0));
        isMissing("free", x.free(0, 0, false));
        isMissing("free, first", x.free(0, 0, true));
        isMissing("drawn", x.drawn(0, 1, 0, 0));
        isMissing("wanted", x.wanted(0, false));
        isMissing("wanted, many", x.wanted(0, true));
        isMissing("after", x.after(0, 0, 1));
        isNone("till", x.till(0, 0));
        isNone("run", x.run(0, 0, 0, false));
        isNone("errands", x.errands(0, 0, 0, NONE));
        isNone("plan", x.plan(0, 0, false));
        isNone("plan, much", x.plan(0, 0, true));
        isNone("corner", x.corner(0, 0, NONE));
        isNone("robbed", x.robbed(0, 0, NONE));
        isNone("shared", x.shared(0, 0, 1));
        isNone("gift", x.gift(0, 0, 0, true));
        isNone("missed", x.missed(0, 0, 0));
        isNone("left", x.left(0, 0));
        isNone("early", x.early(0, 0, 0));
        isNone("ranked", x.ranked(0, 0, 0));
        Check.due("halves of a new object", x.halves(0, false), -1000);
        Check.due("halves, first, of a new object", x.halves(0, true), -1000);
        Check.due("count of a new object", x.count(0), 0);
    }

    // Promise 1: "No ... YEARS, LOGS, SWAPS".
    private static void noYearsLogsSwapsAtFirst() {
        StolenHours x = new StolenHours();
        for (int one = 0; one < 2; one++) {
            isMissing("deed", x.deed(one, NONE, 0));
            isMissing("fact", x.fact(one, NONE, 0));
            isMissing("fits", x.fits(one, 0));
            isNone("span", x.span(one, 0));
            isNone("happy", x.happy(one, 0));
            Check.due("swap of a new object", x.swap(one, 0), -1000);
        }
        for (int sort = 1; sort < 4; sort++) {
            Check.due("count of a new object", x.count(sort), 0);
        }
        Check.hasTape("of a new object", x, 0);
        Check.due("fault of a new object", x.fault(0), 0);
        Check.due("its place", x.fault(1), NONE);
        StolenHours withStreet = Check.withStreet("");
        isNone("till, with a street alone", withStreet.till(0, 0));
        isMissing("state, with a street alone", withStreet.state(0, 0, 0, 0));
        isMissing("after, with a street alone", withStreet.after(0, 0, 1));
        StolenHours withYear = Check.with(1, "");
        isNone("till, with a year alone", withYear.till(0, 0));
        isMissing("state, with a year alone", withYear.state(0, 0, 0, 0));
        isMissing("after, with a year alone", withYear.after(0, 0, 1));
    }

    // Promise 1: "no images".
    private static void noImagesAtFirst() {
        StolenHours x = Check.withStreet("people 3;");
        for (int k = 0; k < 3; k++) {
            Check.due("again(" + k + ") without an image", x.again(k), false);
        }
        Check.due("its street stays", x.street(0, 1), 3);
    }

    // Promise 2: "twenty bytes come behind it, of each number the highest first".
    private static void twentyBytesHighestFirst() {
        for (int at = 0; at < 20; at++) {
            int[] numbers = {BLANK, BLANK, BLANK, BLANK, BLANK};
            int shift = 24 - 8 * (at % 4);
            for (int sign : new int[] {0, 33, 127, 128, 255}) {
                numbers[at / 4] = BLANK & ~(255 << shift) | sign << shift;
                StolenHours x = new StolenHours();
                Check.due("feed", x.feed(BLANK, BLANK, BLANK, BLANK, BLANK), 20);
                Check.due("feed behind it", x.feed(numbers[0], numbers[1], numbers[2], numbers[3], numbers[4]), 40);
                Check.due("text with byte " + sign, x.text(0, NONE), NONE);
                Check.due("place of byte " + sign, x.fault(1), 20 + at);
            }
        }
        StolenHours most = new StolenHours();
        Check.due("feed of the least and the most", most.feed(Integer.MIN_VALUE, Integer.MAX_VALUE, -1, 0, 1), 20);
    }

    // Promise 2: "how many it has"; "at most 600 bytes".
    private static void feedUpToSixHundred() {
        StolenHours x = new StolenHours();
        for (int bytes = 20; bytes <= 600; bytes += 20) {
            Check.due("feed to " + bytes, x.feed(BLANK, BLANK, BLANK, BLANK, BLANK), bytes);
        }
        for (int time = 0; time < 3; time++) {
            Check.due("feed to 620", x.feed(BLANK, BLANK, BLANK, BLANK, BLANK), NONE);
        }
        for (int bytes = 600; bytes >= 570; bytes--) {
            Check.due("end " + bytes, x.end(bytes), bytes);
            boolean goes = bytes <= 580;
            Check.due("feed to " + (bytes + 20), x.feed(BLANK, BLANK, BLANK, BLANK, BLANK), goes ? bytes + 20 : NONE);
            Check.hasTape("of " + bytes, x, goes ? bytes + 20 : bytes);
        }
    }

    // Promise 2: "NONE, and nothing comes, if there would be more than 600".
    private static void nothingComesBeyond() {
        for (int bytes = 578; bytes <= 600; bytes++) {
            StolenHours x = new StolenHours();
            Check.put(x, Check.times(" ", bytes - 10) + "minutes 7;");
            boolean goes = bytes <= 580;
            Check.due("feed behind " + bytes, x.feed(-1, -1, -1, -1, -1), goes ? bytes + 20 : NONE);
            Check.hasTape("behind " + bytes, x, goes ? bytes + 20 : bytes);
            Check.due("text behind " + bytes, x.text(0, NONE), goes ? NONE : 0);
            Check.due("place behind " + bytes, x.fault(1), goes ? bytes : NONE);
            Check.due("minutes behind " + bytes, x.street(0, 0), goes ? -2 : 7);
        }
    }

    // Promise 3: "n. NONE if it has not so many, or n is below 0".
    private static void endAtItsBounds() {
        int[] lengths = {0, 1, 2, 19, 20, 21, 599, 600};
        for (int bytes : lengths) {
            StolenHours x = new StolenHours();
            Check.put(x, Check.times(" ", bytes));
            for (int n : Check.outside(0, bytes)) {
                Check.due("end(" + n + ") of " + bytes, x.end(n), NONE);
            }
            for (int n = bytes; n >= 0 && n > bytes - 4; n--) {
                Check.due("end(" + n + ") of " + bytes, x.end(n), n);
            }
            Check.due("end(0) of " + bytes, x.end(0), 0);
            Check.due("end(1) of none", x.end(1), NONE);
            Check.due("end(0) of none", x.end(0), 0);
        }
    }

    // Promise 3: refused, it leaves the tape as it is.
    private static void endRefusedLeavesTheTape() {
        for (int n : Check.outside(0, 10)) {
            StolenHours x = new StolenHours();
            Check.put(x, "minutes 7;");
            Check.due("end(" + n + ")", x.end(n), NONE);
            Check.hasTape("behind end(" + n + ")", x, 10);
            Check.due("text behind end(" + n + ")", x.text(0, NONE), 0);
            Check.due("minutes behind end(" + n + ")", x.street(0, 0), 7);
        }
    }

    // Promise 3: "The tape has its first n bytes alone".
    private static void theFirstBytesAlone() {
        String text = "minutes 7;people 3;";
        for (int n = 0; n <= 19; n++) {
            StolenHours x = new StolenHours();
            Check.put(x, text);
            Check.due("end(" + n + ")", x.end(n), n);
            Check.hasTape("behind end(" + n + ")", x, n);
            boolean good = n == 0 || n == 10 || n == 19;
            Check.due("text of the first " + n, x.text(0, NONE), good ? 0 : NONE);
            Check.due("minutes of the first " + n, x.street(0, 0), good ? n == 0 ? 12 : 7 : -2);
            Check.due("people of the first " + n, x.street(0, 1), good ? n == 19 ? 3 : 2 : -2);
        }
        StolenHours x = new StolenHours();
        Check.put(x, text);
        x.end(10);
        // "coins 1 7;" and ten blanks
        Check.due("feed behind the first 10", x.feed(1668245870, 1931489568, 926621728, BLANK, BLANK), 30);
        Check.due("text of both", x.text(0, NONE), 0);
        Check.due("people of both", x.street(0, 1), 2);
        Check.due("coins of both", x.street(0, 11), 7);
    }

    // Promise 4: "The tape is taken (and is empty then)", with a fault and without.
    private static void theTapeIsTaken() {
        for (int sort = 0; sort < 4; sort++) {
            for (String text : new String[] {"", TEXTS[sort], "?", TEXTS[sort] + Check.times(" ", 400)}) {
                StolenHours x = new StolenHours();
                Check.tell(x, sort, NONE, text);
                Check.hasTape("behind a text of " + sort, x, 0);
                Check.due("a text of the empty tape", x.text(sort, NONE), text.equals("?") ? 0 : 1);
            }
        }
    }

    // Promise 4: "a further one (at NONE), or in the place of one: its number".
    private static void aFurtherOneOrInThePlaceOfOne() {
        int[][] wants = {{0, 10, 40}, {NONE, 2, 1}, {NONE, 2, 1}, {0, 4, 6}};
        for (int sort = 0; sort < 4; sort++) {
            StolenHours x = new StolenHours();
            Check.due("first of " + sort, Check.tell(x, sort, NONE, TEXTS[sort]), 0);
            Check.due("in its place, of " + sort, Check.tell(x, sort, 0, OTHERS[sort]), 0);
            Check.due("count of one, " + sort, x.count(sort), 1);
            isTold(x, sort, 0, wants[sort][2]);
            Check.due("second of " + sort, Check.tell(x, sort, NONE, OTHERS[sort]), 1);
            Check.due("in the second's place, of " + sort, Check.tell(x, sort, 1, TEXTS[sort]), 1);
            Check.due("count of two, " + sort, x.count(sort), 2);
            isTold(x, sort, 0, wants[sort][2]);
            isTold(x, sort, 1, wants[sort][1]);
            Check.due("in the first's place, of " + sort, Check.tell(x, sort, 0, TEXTS[sort]), 0);
            Check.due("count of still two, " + sort, x.count(sort), 2);
            isTold(x, sort, 0, wants[sort][1]);
            isTold(x, sort, 1, wants[sort][1]);
        }
    }

    private static void isTold(StolenHours x, int sort, int one, int want) {
        int[] got = {x.street(one, 0), x.deed(one, NONE, 0), x.fact(one, NONE, 0), x.swap(one, 0)};
        Check.due("what " + one + " of " + sort + " tells", got[sort], want);
    }

    // Promise 4: "in the place of one": all others, of its sort and of the other sorts, stay as they are told.
    private static void aTextLeavesTheOthers() {
        for (int sort = 0; sort < 4; sort++) {
            for (int place = 0; place < 2; place++) {
                for (String text : new String[] {"", OTHERS[sort]}) {
                    StolenHours x = withTwoOfEach();
                    Check.due("in the place of " + place + " of " + sort, Check.tell(x, sort, place, text), place);
                    for (int other = 0; other < 4; other++) {
                        Check.due("count of " + other, x.count(other), 2);
                        for (int one = 0; one < 2; one++) {
                            if (other != sort || one != place) {
                                staysTold(x, other, one);
                            }
                        }
                    }
                }
            }
        }
        // a further one, too, of each sort in any order
        for (int first = 0; first < 4; first++) {
            StolenHours x = new StolenHours();
            for (int i = 0; i < 8; i++) {
                int sort = (first + 3 * i) % 4;
                Check.due("a further one of " + sort, Check.tell(x, sort, NONE, textOf(sort, i / 4)), i / 4);
            }
            for (int sort = 0; sort < 4; sort++) {
                staysTold(x, sort, 0);
                staysTold(x, sort, 1);
            }
        }
    }

    private static StolenHours withTwoOfEach() {
        StolenHours x = new StolenHours();
        for (int sort = 0; sort < 4; sort++) {
            Check.tell(x, sort, NONE, textOf(sort, 0));
            Check.tell(x, sort, NONE, textOf(sort, 1));
        }
        return x;
    }

    private static String textOf(int sort, int one) {
        String[][] texts = {{"minutes 5;price 4 4 6;", "minutes 7;has 1 6 6;"}, {"think 1 2;dearer 3;", "sell 0 4;"},
            {"gone 8;", "there 9;gone 1;there 2;"}, {"hands 5;worth 4 0 3;", "hands 2;worth 1 1 7;"}};
        return texts[sort][one];
    }

    private static void staysTold(StolenHours x, int sort, int one) {
        int[][] got = {{x.street(one, 0), x.street(one, 104), x.street(one, 206)},
            {x.deed(one, NONE, 0), x.deed(one, 0, 0), x.deed(one, 0, 2)},
            {x.fact(one, NONE, 0), x.fact(one, 0, 0), x.fact(one, 0, 1)},
            {x.swap(one, 0), x.swap(one, 124), x.swap(one, 107)}};
        int[][][] want = {{{5, 6, -2}, {7, 1, 1}}, {{2, 1, 2}, {1, 3, 4}}, {{1, 1, 8}, {3, 0, 9}},
            {{5, 3, 0}, {2, -1000, 7}}};
        for (int i = 0; i < 3; i++) {
            Check.due("what " + one + " of " + sort + " still tells, " + i, got[sort][i], want[sort][one][i]);
        }
    }

    private static StolenHours withAFault() {
        StolenHours x = new StolenHours();
        for (int sort = 0; sort < 4; sort++) {
            Check.tell(x, sort, NONE, TEXTS[sort]);
        }
        Check.due("a fault before", Check.tell(x, 0, 0, "people 5;"), NONE);
        Check.due("it is 2", x.fault(0), 2);
        Check.due("its place", x.fault(1), 7);
        return x;
    }

    /** That text() is refused, with a good tape and a bad one: the tape is empty, no text is read, FAULT 0. */
    private static void isRefused(StolenHours x, int sort, int at) {
        int good = Math.floorMod(sort, 4);
        String before = Check.told(x).replaceFirst("^fault -?\\d+ -?\\d+", "fault 0 -1");
        String call = "text(" + sort + ", " + at + ")";
        Check.due(call + " of a bad tape", Check.tell(x, sort, at, "?"), -2);
        Check.hasTape("behind " + call, x, 0);
        Check.due(call + " leaves all but the fault", Check.told(x), before);
        Check.due(call + " of a good tape", Check.tell(x, sort, at, OTHERS[good]), -2);
        Check.hasTape("behind " + call, x, 0);
        Check.due(call + " tells nothing", Check.told(x), before);
    }

    // Promise 4: "-2: there is none such".
    private static void noneSuch() {
        for (int sort = 0; sort < 4; sort++) {
            for (int many = 0; many < 3; many++) {
                for (int at : new int[] {Integer.MIN_VALUE, -3, -2, many, many + 1, many + 2, 4, 1 << 16, Integer.MAX_VALUE}) {
                    StolenHours x = new StolenHours();
                    for (int i = 0; i < many; i++) {
                        Check.tell(x, sort, NONE, TEXTS[sort]);
                    }
                    Check.tell(x, sort, NONE, many < 2 ? "?" : "");
                    isRefused(x, sort, at);
                }
            }
        }
        // the others' numbers are not its own
        for (int sort = 0; sort < 4; sort++) {
            StolenHours x = new StolenHours();
            for (int other = 0; other < 4; other++) {
                for (int i = 0; i < 2 && other != sort; i++) {
                    Check.tell(x, other, NONE, TEXTS[other]);
                }
            }
            Check.due("in the place of another sort's", Check.tell(x, sort, 0, ""), -2);
            Check.due("of sort " + sort + " there is none", x.count(sort), 0);
        }
    }

    // Promise 4: "there are as many as may be".
    private static void asManyAsMayBe() {
        for (int sort = 0; sort < 4; sort++) {
            StolenHours x = new StolenHours();
            Check.due("first", Check.tell(x, sort, NONE, TEXTS[sort]), 0);
            Check.due("a fault is no further one", Check.tell(x, sort, NONE, "?"), NONE);
            Check.due("second", Check.tell(x, sort, NONE, TEXTS[sort]), 1);
            isRefused(x, sort, NONE);
            Check.due("but in the place of one", Check.tell(x, sort, 1, OTHERS[sort]), 1);
        }
    }

    // Promise 4: "or no such sort (the tape is empty then, too; no text is read, FAULT 0)".
    private static void noSuchSort() {
        for (int sort : Check.outside(0, 3)) {
            isRefused(withAFault(), sort, NONE);
            isRefused(withAFault(), sort, 0);
        }
    }

    // Promise 4: "NONE: a FAULT": nothing is told, what stands in the place stays.
    private static void aFaultTellsNothing() {
        String[][] bad = {{"?", "people 5;", "people 4;has 3 12 12;", Check.times("business 1 0 0 0;", 7)},
            {"?", "buy 4 0;", Check.times("dearer 0;", 41), "do 0 0 0"}, {"?", "gone 40;", Check.times("gone 0;", 9), "gone 0"},
            {"?", "hands 1;", "hands 4;worth 4 0 1;", "hands 5"}};
        int[][] faults = {{1, 2, 4, 3}, {1, 2, 3, 1}, {1, 2, 3, 1}, {1, 2, 4, 1}};
        int[][] places = {{0, 7, 21, 102}, {0, 4, 360, 8}, {0, 5, 56, 6}, {0, 6, 20, 7}};
        for (int sort = 0; sort < 4; sort++) {
            for (int i = 0; i < 4; i++) {
                StolenHours x = Check.with(sort, TEXTS[sort]);
                String before = Check.told(x);
                String fault = "fault " + faults[sort][i] + " " + places[sort][i];
                Check.due("a further one of " + bad[sort][i], Check.tell(x, sort, NONE, bad[sort][i]), NONE);
                Check.due("tells nothing", Check.told(x), before.replaceFirst("^fault -?\\d+ -?\\d+", fault));
                Check.due("in the place of one " + bad[sort][i], Check.tell(x, sort, 0, bad[sort][i]), NONE);
                Check.due("leaves that one", Check.told(x), before.replaceFirst("^fault -?\\d+ -?\\d+", fault));
                Check.hasTape("behind a fault", x, 0);
                Check.due("a good one behind it", Check.tell(x, sort, NONE, ""), 1);
            }
        }
    }

    // Promise 5: "Of the latest text(), what 0: the FAULT, 0 without, 1: its place, NONE without".
    private static void theLatestFault() {
        StolenHours x = new StolenHours();
        isFault(x, "of no text", 0, NONE);
        Check.tell(x, 0, NONE, " people 5;");
        isFault(x, "of a bad number", 2, 8);
        Check.put(x, "?");
        isFault(x, "before the next text", 2, 8);
        x.text(1, NONE);
        isFault(x, "of a bad sign", 1, 0);
        Check.tell(x, 2, NONE, "gone 1;");
        isFault(x, "of a good text", 0, NONE);
        Check.tell(x, 0, NONE, "coins 3 1;");
        isFault(x, "of a person who is not there", 4, 10);
        Check.tell(x, 0, 0, "");
        isFault(x, "of a refused text", 0, NONE);
        Check.tell(x, 2, NONE, Check.times("gone 0;", 9));
        isFault(x, "of a 9th fact", 3, 56);
        x.feed(1, 1, 1, 1, 1);
        x.end(-1);
        x.street(5, 5);
        x.image(7);
        isFault(x, "behind other calls", 3, 56);
        Check.tell(x, 4, NONE, "");
        isFault(x, "of no such sort", 0, NONE);
    }

    private static void isFault(StolenHours x, String of, int fault, int place) {
        Check.due("fault " + of, x.fault(0), fault);
        Check.due("place " + of, x.fault(1), place);
    }

    // Promise 5: "NONE for another what".
    private static void faultOfAnotherWhat() {
        StolenHours x = new StolenHours();
        for (String text : new String[] {"", "people 5;"}) {
            Check.tell(x, 0, NONE, text);
            for (int what : Check.outside(0, 1)) {
                Check.due("fault(" + what + ")", x.fault(what), NONE);
            }
        }
    }

    // Promise 34: "How many there are of a sort. -2 for another one".
    private static void countOfAnotherSort() {
        StolenHours x = new StolenHours();
        for (int many = 0; many < 3; many++) {
            for (int sort : Check.outside(0, 3)) {
                Check.due("count(" + sort + ")", x.count(sort), -2);
            }
            for (int sort = 0; sort < 4; sort++) {
                Check.due("count(" + sort + ")", x.count(sort), many);
                Check.tell(x, sort, NONE, TEXTS[sort]);
            }
        }
    }

    // Promises 35 and 36: "k (0 .. 2)", "false for another k", "false if there is none such".
    private static void imagesAtTheirBounds() {
        StolenHours x = new StolenHours();
        for (int k : Check.outside(0, 2)) {
            Check.due("image(" + k + ")", x.image(k), false);
            Check.due("again(" + k + ")", x.again(k), false);
        }
        for (int k = 0; k < 3; k++) {
            Check.due("again(" + k + ") before", x.again(k), false);
            Check.due("image(" + k + ")", x.image(k), true);
            Check.due("again(" + k + ")", x.again(k), true);
            Check.due("again(" + k + ") once more", x.again(k), true);
        }
        for (int k : Check.outside(0, 2)) {
            Check.due("image(" + k + ") with all", x.image(k), false);
            Check.due("again(" + k + ") with all", x.again(k), false);
        }
    }

    // Promise 35: an image that is refused makes none, and strikes none.
    private static void anImageRefusedMakesNone() {
        for (int k : Check.outside(0, 2)) {
            StolenHours x = Check.withStreet("people 3;");
            Check.due("image(" + k + ")", x.image(k), false);
            for (int other = 0; other < 3; other++) {
                Check.due("again(" + other + ") behind image(" + k + ")", x.again(other), false);
            }
            for (int other = 0; other < 3; other++) {
                Check.due("image(" + other + ")", x.image(other), true);
            }
            Check.tell(x, 0, 0, "people 4;");
            Check.due("image(" + k + ") again", x.image(k), false);
            for (int other = 0; other < 3; other++) {
                Check.due("again(" + other + ")", x.again(other), true);
                Check.due("people of image " + other, x.street(0, 1), 3);
                Check.tell(x, 0, 0, "people 4;");
            }
        }
    }

    // Promise 36: "false if there is none such": all stays as it is.
    private static void againRefusedLeavesAll() {
        StolenHours x = withAFault();
        x.image(1);
        Check.tell(x, 0, 0, "people 3;");
        Check.tell(x, 3, 0, "hands 7;");
        Check.put(x, "minutes 9;");
        String before = Check.told(x);
        for (int k : Check.outside(0, 2)) {
            Check.due("again(" + k + ")", x.again(k), false);
        }
        Check.due("again(0)", x.again(0), false);
        Check.due("again(2)", x.again(2), false);
        Check.due("all stays", Check.told(x), before);
        Check.hasTape("behind again() refused", x, 10);
        Check.due("the tape's text", x.text(0, NONE), 1);
        Check.due("its minutes", x.street(1, 0), 9);
    }

    // Promises 35 and 36: "all that is told (the tape, the FAULT, too)", nothing at all and as much as may be.
    private static void imagesOfNothingAndOfAll() {
        StolenHours x = new StolenHours();
        Check.due("image of nothing", x.image(0), true);
        fill(x);
        String all = Check.told(x);
        Check.due("image of all", x.image(2), true);
        Check.due("back to nothing", x.again(0), true);
        for (int sort = 0; sort < 4; sort++) {
            Check.due("nothing is told of " + sort, x.count(sort), 0);
        }
        isFault(x, "of nothing", 0, NONE);
        Check.hasTape("of nothing", x, 0);
        for (int sort = 0; sort < 4; sort++) {
            Check.due("a first one again of " + sort, Check.tell(x, sort, NONE, ""), 0);
        }
        Check.due("back to all", x.again(2), true);
        Check.due("all is told", Check.told(x), all);
        Check.hasTape("of all", x, 600);
        Check.due("the text of all", x.text(0, 1), NONE);
        isFault(x, "of all", 1, 599);
    }

    private static void fill(StolenHours x) {
        Check.tell(x, 0, NONE, "minutes 40;people 4;coins 3 99;price 0 39 9;has 3 0 39;" + Check.times("business 9 0 39 99;", 6));
        Check.tell(x, 0, NONE, "minutes 1;people 1;has 0 0 0;coins 0 0;price 0 0 0;");
        for (int one = 0; one < 2; one++) {
            Check.tell(x, 1, NONE, Check.times(one == 0 ? "do 3 5 39;" : "think 2 1;", 40));
            Check.tell(x, 2, NONE, Check.times(one == 0 ? "gone 39;" : "there 2;", 8));
            Check.tell(x, 3, NONE, "hands " + (6 - one) + ";worth 4 4 9;worth 0 1 " + one + ";");
        }
        Check.tell(x, 0, 0, "?");
        Check.put(x, Check.times(" ", 589) + "minutes 7;?");
    }

    // Promises 35 and 36: "as it is now", "All that is as image k has it": each k its own, for good, until it is made
    // anew; the tape and the fault too, the images not.
    private static void imagesAsTheyWere() {
        StolenHours x = new StolenHours();
        for (int k = 0; k < 3; k++) {
            Check.tell(x, 0, k == 0 ? NONE : 0, "people " + (k + 2) + ";");
            Check.tell(x, 1, NONE, Check.times("?", k));
            Check.tell(x, 3, 0, Check.times(" ", k) + "hands 7;");
            Check.put(x, Check.times(" ", k) + "minutes " + (k + 5) + ";");
            Check.due("image(" + k + ")", x.image(k), true);
            Check.hasTape("image leaves the tape", x, k + 10);
            Check.tell(x, 0, 0, "people 1;");
        }
        Check.due("people now", x.street(0, 1), 1);
        for (int k : new int[] {2, 0, 1, 1, 0, 2}) {
            Check.due("again(" + k + ")", x.again(k), true);
            Check.due("people of " + k, x.street(0, 1), k + 2);
            Check.due("fault of " + k, x.fault(0), 0);
            Check.hasTape("of " + k, x, k + 10);
            Check.due("its text", x.text(0, 0), 0);
            Check.due("its minutes", x.street(0, 0), k + 5);
        }
        Check.tell(x, 2, NONE, " gone 40;");
        Check.due("image(1) anew", x.image(1), true);
        Check.due("again(0)", x.again(0), true);
        Check.due("no fault of 0", x.fault(0), 0);
        Check.due("again(1)", x.again(1), true);
        Check.due("the fault of 1", x.fault(0), 2);
        Check.due("the place of 1", x.fault(1), 6);
        Check.due("the minutes of 1", x.street(0, 0), 7);
    }

    // "An object is used for at most 512 calls after it has been made": so it answers the 512th.
    private static void fiveHundredAndTwelveCalls() {
        StolenHours x = new StolenHours();
        for (int call = 1; call <= 509; call++) {
            Check.due("call " + call, x.count(call % 4), 0);
        }
        // "minutes 7;people 3; "
        Check.due("call 510", x.feed(1835626101, 1952805664, 926642277, 1869638757, 540228384), 20);
        Check.due("call 511", x.text(0, NONE), 0);
        Check.due("call 512", x.street(0, 0), 7);
    }
}
