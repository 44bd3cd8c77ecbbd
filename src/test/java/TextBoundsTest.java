/** Point 1 of the Terms where it tells a bound: a method for each such sentence, at it, one below and one above it. */
public final class TextBoundsTest {
    private static final int NONE = StolenHours.NONE;
    private static final int FREE_OF_FAULT = 0;

    private TextBoundsTest() {
    }

    public static void main(String[] args) {
        numbersOfStreets();
        numbersOfYears();
        numbersOfLogs();
        numbersOfSwaps();
        lastBeforeFirst();
        threeDigits();
        atFirst();
        atMostSixBusinesses();
        atMostFortyDeeds();
        atMostEightFacts();
        atMostSixHundredBytes();
        blanks();
        letters();
        digits();
        stops();
        emptyTexts();
        laterOnesStrike();
        furtherOnesStay();
        faultOneIsFirst();
        faultsTwoAndThreeByPlace();
        faultyLinesCount();
        faultFour();
        faultFourIsLast();
        atMostTwoOfASort();
        Check.finish("TextBoundsTest");
    }

    /** That a text has a fault, or none (0) and no place, and that one with a fault is not told. */
    private static StolenHours has(int sort, String text, int fault, int place) {
        StolenHours x = new StolenHours();
        String name = "text(" + sort + ") of \"" + text + "\"";
        Check.due(name, Check.tell(x, sort, NONE, text), fault == 0 ? 0 : NONE);
        Check.due("fault(0) of " + name, x.fault(0), fault);
        Check.due("fault(1) of " + name, x.fault(1), place);
        Check.due("count of " + name, x.count(sort), fault == 0 ? 1 : 0);
        Check.due("tape behind " + name, x.end(1), NONE);
        return x;
    }

    private static void isGood(int sort, String text) {
        has(sort, text, FREE_OF_FAULT, NONE);
    }

    /** That of 0 to 99 all from least to most can stand between, in one digit or two, the others being fault 2. */
    private static void goesFrom(int least, int most, int sort, String before, String behind) {
        for (int n = 0; n <= 99; n++) {
            boolean good = n >= least && n <= most;
            has(sort, before + n + behind, good ? 0 : 2, good ? NONE : before.length());
            if (n < 10) {
                has(sort, before + "0" + n + behind, good ? 0 : 2, good ? NONE : before.length());
            }
        }
    }

    // "MINUTES, 1 .. 40"; "PEOPLE, 1 .. 4"; "COINS of each, 0 .. 99"; "PRICE, 0 .. 9"; "LENGTH, 1 .. 9, FROM, TO,
    // MINUTES, WORTH, 0 .. 99"; "a PERSON, 0 .. 3"; "the first MINUTE, 0 .. 39".
    private static void numbersOfStreets() {
        String all = "minutes 40;people 4;";
        goesFrom(1, 40, 0, "minutes ", ";");
        goesFrom(1, 4, 0, "people ", ";");
        goesFrom(0, 3, 0, all + "coins ", " 5;");
        goesFrom(0, 99, 0, all + "coins 0 ", ";");
        goesFrom(0, 39, 0, all + "price ", " 39 5;");
        goesFrom(0, 39, 0, all + "price 0 ", " 5;");
        goesFrom(0, 9, 0, all + "price 0 0 ", ";");
        goesFrom(0, 3, 0, all + "has ", " 0 0;");
        goesFrom(0, 39, 0, all + "has 0 ", " 39;");
        goesFrom(0, 39, 0, all + "has 0 0 ", ";");
        goesFrom(1, 9, 0, all + "business ", " 0 0 0;");
        goesFrom(0, 39, 0, all + "business 1 ", " 39 0;");
        goesFrom(0, 39, 0, all + "business 1 0 ", " 0;");
        goesFrom(0, 99, 0, all + "business 1 0 0 ", ";");
        for (int n : new int[] {1, 40}) {
            Check.due("minutes " + n, Check.withStreet("minutes " + n + ";").street(0, 0), n);
        }
        for (int n : new int[] {1, 4}) {
            Check.due("people " + n, Check.withStreet("people " + n + ";").street(0, 1), n);
        }
        StolenHours x = Check.withStreet(all + "coins 0 0;coins 3 99;price 0 0 0;price 39 39 9;has 0 0 0;has 3 39 39;"
            + "business 1 0 0 0;business 9 39 39 99;");
        int[] want = {10, 0, 13, 99, 100, 0, 101, 1, 138, 1, 139, 9, 200, 0, 201, NONE, 238, NONE, 239, 3,
            20, 1, 21, 9, 30, 0, 31, 39, 40, 0, 41, 39, 50, 0, 51, 99};
        for (int i = 0; i < want.length; i += 2) {
            Check.due("told at the bounds, " + want[i], x.street(0, want[i]), want[i + 1]);
        }
    }

    // "buy and so on: a PERSON, a MINUTE; do: a PERSON, a BUSINESS, 0 .. 5, its first MINUTE; dearer, cheaper".
    private static void numbersOfYears() {
        for (String word : new String[] {"buy", "think", "steal", "sell"}) {
            goesFrom(0, 3, 1, word + " ", " 0;");
            goesFrom(0, 39, 1, word + " 0 ", ";");
        }
        goesFrom(0, 3, 1, "do ", " 0 0;");
        goesFrom(0, 5, 1, "do 0 ", " 0;");
        goesFrom(0, 39, 1, "do 0 0 ", ";");
        goesFrom(0, 39, 1, "dearer ", ";");
        goesFrom(0, 39, 1, "cheaper ", ";");
    }

    // "a MINUTE, 0 .. 39, is GONE, or THERE".
    private static void numbersOfLogs() {
        goesFrom(0, 39, 2, "gone ", ";");
        goesFrom(0, 39, 2, "there ", ";");
    }

    // "HANDS, 2 .. 6"; "worth: to whom, 0 .. 5, whose MINUTE, how much"; "0 .. 9".
    private static void numbersOfSwaps() {
        goesFrom(2, 6, 3, "hands ", ";");
        goesFrom(0, 5, 3, "hands 6;worth ", " 0 0;");
        goesFrom(0, 5, 3, "hands 6;worth 0 ", " 0;");
        goesFrom(0, 9, 3, "hands 6;worth 0 0 ", ";");
    }

    // "of price, has, business the last MINUTE, TO, if it is less than the first, FROM".
    private static void lastBeforeFirst() {
        for (int first : new int[] {0, 1, 9, 10, 17, 38, 39}) {
            goesFrom(first, 39, 0, "minutes 40;price " + first + " ", " 5;");
            goesFrom(first, 39, 0, "minutes 40;has 0 " + first + " ", ";");
            goesFrom(first, 39, 0, "minutes 40;business 1 " + first + " ", " 0;");
        }
        // where the first one can't be, it is the first by place
        has(0, "price 40 39 1;", 2, 6);
        has(0, "has 0 40 39;", 2, 6);
        has(0, "business 1 40 39 1;", 2, 11);
        // of others no number has to rise
        isGood(0, "coins 1 0;");
        isGood(1, "buy 3 0;do 3 0 0;do 0 5 0;");
        isGood(3, "worth 2 1 0;");
    }

    // "NUMBERS, 1 or 2 digits"; "a longer row of digits is no token".
    private static void threeDigits() {
        has(0, "coins 0 100;", 1, 8);
        has(0, "coins 0 000;", 1, 8);
        has(0, "coins 000 1;", 1, 6);
        has(0, "coins 0 0000000000000000000001;", 1, 8);
        has(0, "business 1 0 0 100;", 1, 15);
        has(1, "dearer 001;", 1, 7);
        has(2, "gone 039;", 1, 5);
        has(3, "hands 002;", 1, 6);
        isGood(0, "coins 0 99;coins 0 00;");
        // it is fault 1 before all that is fault 2 or 4
        has(0, "minutes 41;coins 3 1;coins 0 100;", 1, 29);
        StolenHours x = Check.withStreet("coins 0 07;coins 1 70;");
        Check.due("two digits from 0 on", x.street(0, 10), 7);
        Check.due("two digits to 0", x.street(0, 11), 70);
    }

    // "(12 at first)", "(2 at first)", "(20 at first)", "(1 at first)", "nobody's (at first)", "(3 at first)",
    // "(0 at first)".
    private static void atFirst() {
        StolenHours x = Check.withStreet("");
        Check.due("minutes at first", x.street(0, 0), 12);
        Check.due("people at first", x.street(0, 1), 2);
        Check.due("business at first", x.street(0, 2), 0);
        StolenHours most = Check.withStreet("people 4;minutes 40;");
        for (int p = 0; p < 4; p++) {
            Check.due("coins at first of " + p, most.street(0, 10 + p), 20);
        }
        for (int m = 0; m < 40; m++) {
            Check.due("price at first of " + m, most.street(0, 100 + m), 1);
            Check.due("in nobody's hands at first: " + m, most.street(0, 200 + m), NONE);
        }
        Check.due("hands at first", Check.with(3, "").swap(0, 0), 3);
        StolenHours swaps = Check.with(3, "hands 6;");
        for (int i = 0; i < 36; i++) {
            Check.due("worth at first, " + i, swaps.swap(0, 100 + i), 0);
        }
    }

    // "at most 6 of it"; "3 a 7th BUSINESS ... at its first token".
    private static void atMostSixBusinesses() {
        String line = "business 1 0 0 0;";
        for (int many = 0; many <= 6; many++) {
            StolenHours x = has(0, Check.times(line, many), 0, NONE);
            Check.due("business told", x.street(0, 2), many);
        }
        for (int many = 7; many <= 9; many++) {
            has(0, Check.times(line, many), 3, 102);
            has(0, Check.times(line, 6) + " \n " + Check.times(line, many - 6), 3, 105);
            has(0, "people 1;" + Check.times(line + "people 1;", many), 3, 9 + 6 * 26);
        }
    }

    // "A YEAR has DEEDS, at most 40"; "a 41st DEED".
    private static void atMostFortyDeeds() {
        String[] lines = {"buy 0 0;", "think 0 0;", "steal 0 0;", "sell 0 0;", "do 0 0 0;", "dearer 0;", "cheaper 0;"};
        for (String line : lines) {
            for (int many = 39; many <= 42; many++) {
                boolean good = many <= 40;
                StolenHours x = has(1, Check.times(line, many), good ? 0 : 3, good ? NONE : 40 * line.length());
                Check.due(many + " deeds told", x.deed(0, NONE, 0), good ? many : -2);
            }
            has(1, Check.times("dearer 0;", 40) + "  " + line, 3, 362);
        }
        has(1, Check.times("sell 0 0;cheaper 1;", 21), 3, 20 * 19);
    }

    // "A LOG has FACTS, at most 8"; "a 9th FACT".
    private static void atMostEightFacts() {
        for (String line : new String[] {"gone 0;", "there 0;"}) {
            for (int many = 7; many <= 10; many++) {
                boolean good = many <= 8;
                StolenHours x = has(2, Check.times(line, many), good ? 0 : 3, good ? NONE : 8 * line.length());
                Check.due(many + " facts told", x.fact(0, NONE, 0), good ? many : -2);
            }
        }
        has(2, Check.times("gone 0;there 1;", 4) + "\ngone 0;", 3, 61);
        has(2, Check.times("gone 0;there 1;", 4) + "there 0;", 3, 60);
    }

    // "THE TAPE has at most 600 bytes": all of 600 are read, and the last of them counts.
    private static void atMostSixHundredBytes() {
        isGood(0, Check.times(" ", 590) + "minutes 7;");
        StolenHours x = Check.withStreet(Check.times("minutes 8;", 59) + "minutes 7;");
        Check.due("the last line of 600 bytes", x.street(0, 0), 7);
        has(0, Check.times(" ", 591) + "minutes 7", 1, 600);
        has(0, Check.times(" ", 599) + "?", 1, 599);
        has(0, Check.times(" ", 598) + "?", 1, 598);
        has(0, Check.times(" ", 590) + "coins 3 7;", 4, 600);
        has(0, Check.times(" ", 589) + "coins 3 7;", 4, 599);
    }

    // "blanks (10, 32) between": no other byte is one.
    private static void blanks() {
        for (int sign = 0; sign < 256; sign++) {
            boolean blank = sign == 10 || sign == 32;
            String one = String.valueOf((char) sign);
            has(0, "minutes 7;" + one, blank ? 0 : 1, blank ? NONE : 10);
            if (sign < 'a' || sign > 'z') {
                has(0, one + "minutes 7;", blank ? 0 : 1, blank ? NONE : 0);
                has(0, "minutes 7; " + one + " people 3;", blank ? 0 : 1, blank ? NONE : 11);
            }
            if (sign < '0' || sign > '9') {
                has(0, "minutes 7" + one + ";", blank ? 0 : 1, blank ? NONE : sign == ';' ? 10 : 9);
            }
        }
        isGood(0, "\n \n minutes\n \n7 \n\n ;\n\n  people \n 3\n;\n \n");
        isGood(0, "minutes7;people3;coins0 5;");
    }

    // "words, rows of letters a .. z", "as long as they go".
    private static void letters() {
        for (int sign = 0; sign < 256; sign++) {
            String one = String.valueOf((char) sign);
            boolean letter = sign >= 'a' && sign <= 'z';
            boolean blank = sign == 10 || sign == 32;
            boolean digit = sign >= '0' && sign <= '9';
            // a letter makes another word of it, whose first byte is the place; what is no letter ends the word
            has(0, "people" + one + " 3;", letter ? 1 : blank ? 0 : 1, letter ? 0 : blank ? NONE : digit ? 8 : 6);
            has(0, "peo" + one + "ple 3;", 1, 0);
            has(0, "minutes 3;" + one + "a 3;", 1, blank ? 11 : 10);
        }
        has(0, "peoplepeople 3;", 1, 0);
        has(0, "p eople 3;", 1, 0);
        has(0, "People 3;", 1, 0);
        has(0, "people 3;peoplE 3;", 1, 9);
        has(0, "a", 1, 0);
        has(0, "z", 1, 0);
    }

    // "NUMBERS, 1 or 2 digits": every digit from 0 to 9, none of the signs around them.
    private static void digits() {
        for (int sign = 0; sign < 256; sign++) {
            String one = String.valueOf((char) sign);
            boolean digit = sign >= '0' && sign <= '9';
            boolean blank = sign == 10 || sign == 32;
            has(0, "coins 0 " + one + ";", digit ? 0 : 1, digit ? NONE : blank ? 9 : 8);
            StolenHours x = has(0, "coins 0 " + one + "5;", digit || blank ? 0 : 1, digit || blank ? NONE : 8);
            Check.due("coins of " + sign + " 5", x.street(0, 10), digit ? 10 * (sign - '0') + 5 : blank ? 5 : -2);
            has(0, "coins 0 1" + one + "2;", 1, digit ? 8 : blank || sign == ';' ? 10 : 9);
        }
    }

    // "; one byte": each line has one, and just one.
    private static void stops() {
        has(0, "minutes 7", 1, 9);
        has(0, "minutes 7;;", 1, 10);
        has(0, "minutes 7; ;", 1, 11);
        has(0, ";minutes 7;", 1, 0);
        has(0, "minutes;7;", 1, 7);
        has(0, "minutes 7 people 3;", 1, 10);
        has(0, "coins 0;5;", 1, 7);
        has(0, "coins 0 5 5;", 1, 10);
        has(1, "do 0 0;0;", 1, 6);
        has(1, "do 0 0 0 0;", 1, 9);
        has(1, "dearer 0 0;", 1, 9);
        has(2, "gone 0 0;", 1, 7);
        has(3, "hands 3 3;", 1, 8);
        has(3, "worth 0 0;", 1, 9);
    }

    // A text is any number of lines, none too.
    private static void emptyTexts() {
        for (int sort = 0; sort < 4; sort++) {
            isGood(sort, "");
            isGood(sort, " ");
            isGood(sort, "\n");
            isGood(sort, Check.times(" \n", 300));
        }
        Check.due("no deed", Check.with(1, "").deed(0, NONE, 0), 0);
        Check.due("no fact", Check.with(2, "").fact(0, NONE, 0), 0);
    }

    // "Later ones strike".
    private static void laterOnesStrike() {
        StolenHours x = Check.withStreet("minutes 39;minutes 40;people 1;people 4;coins 3 1;coins 3 2;price 0 9 3;"
            + "price 3 5 4;price 5 12 6;has 0 0 9;has 1 3 5;has 2 5 12;has 0 4 4;");
        int[] want = {0, 40, 1, 4, 13, 2, 12, 20, 100, 3, 102, 3, 103, 4, 104, 4, 105, 6, 112, 6, 113, 1, 200, 0, 202, 0,
            203, 1, 204, 0, 205, 2, 212, 2, 213, NONE};
        for (int i = 0; i < want.length; i += 2) {
            Check.due("later ones strike, " + want[i], x.street(0, want[i]), want[i + 1]);
        }
        StolenHours fewer = Check.withStreet("minutes 40;minutes 1;people 4;people 1;");
        Check.due("fewer minutes strike", fewer.street(0, 0), 1);
        Check.due("fewer people strike", fewer.street(0, 1), 1);
        StolenHours swaps = Check.with(3, "hands 2;hands 6;worth 5 4 9;worth 5 4 0;worth 4 5 3;worth 4 5 4;hands 5;hands 6;");
        Check.due("later hands strike", swaps.swap(0, 0), 6);
        Check.due("later worth strikes", swaps.swap(0, 134), 0);
        Check.due("of another way", swaps.swap(0, 129), 4);
    }

    // "but BUSINESS, DEEDS, FACTS, which are further ones".
    private static void furtherOnesStay() {
        StolenHours x = Check.withStreet("business 1 0 3 5;business 1 0 3 5;business 2 0 3 5;");
        Check.due("the same business", x.street(0, 2), 3);
        Check.due("its length", x.street(0, 20), 1);
        Check.due("its second length", x.street(0, 21), 1);
        Check.due("another's length", x.street(0, 22), 2);
        StolenHours year = Check.with(1, "dearer 3;dearer 3;cheaper 3;");
        Check.due("the same deed", year.deed(0, NONE, 0), 3);
        Check.due("its second", year.deed(0, 1, 0), 5);
        Check.due("another deed", year.deed(0, 2, 0), 6);
        StolenHours log = Check.with(2, "gone 3;gone 3;there 3;");
        Check.due("the same fact", log.fact(0, NONE, 0), 3);
        Check.due("its second", log.fact(0, 1, 0), 1);
        Check.due("another fact", log.fact(0, 2, 0), 0);
    }

    // "1 the first byte or token with which no text goes on"; "If there is none, ...".
    private static void faultOneIsFirst() {
        has(0, "? ?", 1, 0);
        has(0, "minutes 7;? x", 1, 10);
        has(0, "minutes 7;x ?", 1, 10);
        has(0, "minutes 41;x", 1, 11);
        has(0, "minutes 41", 1, 10);
        has(0, "coins 3 1;x", 1, 10);
        has(0, Check.times("business 1 0 0 0;", 7) + "x", 1, 119);
        has(0, Check.times("business 1 0 0 0;", 6) + "business 1 0 0;", 1, 116);
        has(1, Check.times("dearer 0;", 40) + "dearer;", 1, 366);
        has(2, Check.times("gone 0;", 8) + "gone", 1, 60);
        has(3, "hands 7;worth 0 0;", 1, 17);
        String[] firsts = {"minutes", "buy", "gone", "hands"};
        for (int sort = 0; sort < 4; sort++) {
            for (int other = 0; other < 4; other++) {
                has(sort, firsts[other], 1, sort == other ? firsts[sort].length() : 0);
            }
        }
    }

    // "the first by place": 2 and 3.
    private static void faultsTwoAndThreeByPlace() {
        String seven = Check.times("business 1 0 0 0;", 7);
        has(0, "people 5;" + seven, 2, 7);
        has(0, seven + "people 5;", 3, 102);
        has(0, "people 5;minutes 41;", 2, 7);
        has(0, "business 0 5 4 0;", 2, 9);
        has(0, "business 1 5 4 0;business 0 0 0 0;", 2, 13);
        has(0, Check.times("business 1 0 0 0;", 6) + "business 0 40 0 0;", 3, 102);
        has(1, Check.times("dearer 0;", 39) + "dearer 40;dearer 0;", 2, 358);
        has(1, Check.times("dearer 0;", 41) + "dearer 40;", 3, 360);
        has(2, Check.times("gone 0;", 7) + "gone 40;gone 0;", 2, 54);
        has(2, Check.times("gone 0;", 8) + "gone 40;", 3, 56);
        has(3, "worth 6 7 10;", 2, 6);
        has(3, "worth 5 7 10;", 2, 8);
        has(3, "worth 5 5 10;", 2, 10);
    }

    // "a line with such a NUMBER tells its BUSINESS, DEED, FACT all the same": so it can be the 7th, 41st, 9th one,
    // and that fault's place is before the NUMBER's.
    private static void faultyLinesCount() {
        has(0, "business 0 0 0 0;" + Check.times("business 1 0 0 0;", 5), 2, 9);
        has(0, Check.times("business 1 0 0 0;", 5) + "business 0 0 0 0;business 1 0 0 0;", 2, 94);
        has(0, Check.times("business 1 0 0 0;", 6) + "business 10 0 0 0;", 3, 102);
        has(1, Check.times("dearer 0;", 40) + "dearer 40;", 3, 360);
        has(2, Check.times("there 0;", 8) + "there 40;", 3, 64);
        StolenHours x = Check.withStreet("people 3;");
        Check.due("a faulty text", Check.tell(x, 0, 0, "people 4;minutes 41;"), NONE);
        Check.due("tells nothing of it", x.street(0, 1), 3);
        Check.due("and is no further one", x.street(1, 1), -2);
    }

    // "at the end's place: 4 of a STREET a MINUTE (TO, too), a PERSON that was told of and is not there".
    private static void faultFour() {
        for (int minutes = 1; minutes <= 40; minutes += 13) {
            String street = "minutes " + minutes + ";";
            for (int m = Math.max(0, minutes - 2); m <= Math.min(39, minutes + 1); m++) {
                String[] lines = {"price " + m + " " + m + " 1;", "price 0 " + m + " 1;", "has 0 " + m + " " + m + ";",
                    "has 0 0 " + m + ";", "business 1 " + m + " " + m + " 1;", "business 1 0 " + m + " 1;"};
                for (String line : lines) {
                    isThereOr(0, street + line, m < minutes);
                    isThereOr(0, line + street, m < minutes);
                    isThereOr(0, line + street + " ", m < minutes);
                }
            }
        }
        for (int people = 1; people <= 4; people++) {
            for (int p = 0; p <= 3; p++) {
                isThereOr(0, "people " + people + ";coins " + p + " 5;", p < people);
                isThereOr(0, "has " + p + " 0 0;people " + people + ";\n", p < people);
            }
        }
        for (int hands = 2; hands <= 6; hands++) {
            for (int h = 0; h <= 5; h++) {
                isThereOr(3, "hands " + hands + ";worth " + h + " 0 1;", h < hands);
                isThereOr(3, "worth 0 " + h + " 1;hands " + hands + ";", h < hands);
                isThereOr(3, "worth 0 " + h + " 0;hands " + hands + "; ", h < hands);
            }
        }
        // as they are at first
        isThereOr(0, "price 11 11 1;", true);
        isThereOr(0, "price 12 12 1;", false);
        isThereOr(0, "coins 1 1;", true);
        isThereOr(0, "coins 2 1;", false);
        isThereOr(3, "worth 2 2 1;", true);
        isThereOr(3, "worth 3 2 1;", false);
        // told of, though a later one strikes it; and though they were there in between
        isThereOr(0, "has 0 12 12;has 0 0 0;", false);
        isThereOr(0, "minutes 40;price 39 39 1;minutes 12;", false);
        isThereOr(0, "people 4;coins 3 20;people 3;", false);
        isThereOr(3, "hands 6;worth 5 5 0;hands 5;", false);
        // a year and a log tell of what may be in no street
        isThereOr(1, "buy 3 39;do 3 5 39;", true);
        isThereOr(2, "gone 39;there 38;", true);
    }

    private static void isThereOr(int sort, String text, boolean there) {
        has(sort, text, there ? 0 : 4, there ? NONE : text.length());
    }

    // "If there is none of these": 4 behind 1, 2, 3.
    private static void faultFourIsLast() {
        has(0, "coins 3 1;?", 1, 10);
        has(0, "coins 3 1;minutes 0;", 2, 18);
        has(0, "minutes 0;coins 3 1;", 2, 8);
        has(0, "coins 3 1;" + Check.times("business 1 0 0 0;", 7), 3, 112);
        has(3, "worth 5 0 1;hands 7;", 2, 18);
        has(3, "worth 5 0 1;hands", 1, 17);
    }

    // "STREETS, at most 2 (sort 0), YEARS, at most 2 (1), LOGS, at most 2 (2), SWAPS, at most 2 texts of them (3)".
    private static void atMostTwoOfASort() {
        for (int sort = 0; sort < 4; sort++) {
            StolenHours x = new StolenHours();
            for (int many = 0; many < 2; many++) {
                Check.due("so many of " + sort, x.count(sort), many);
                Check.due("a further one of " + sort, Check.tell(x, sort, NONE, ""), many);
            }
            for (int time = 0; time < 3; time++) {
                Check.due("two of " + sort, x.count(sort), 2);
                Check.due("a third of " + sort, Check.tell(x, sort, NONE, ""), -2);
            }
            for (int other = 0; other < 4; other++) {
                Check.due("of another sort, " + other, x.count(other), other == sort ? 2 : 0);
            }
        }
    }
}
