/** Promises 1 to 5 and 34 to 36: the tape, the texts and their faults, images. */
public final class TapeTest {
    private static final int NONE = StolenHours.NONE;

    private TapeTest() {
    }

    public static void main(String[] args) {
        aNewObject();
        feed();
        end();
        takingTexts();
        textsThatAreNotRead();
        tokens();
        cutTexts();
        faultsOfStreets();
        faultsOfOtherTexts();
        whichFaultIsTold();
        images();
        Check.finish("TapeTest");
    }

    private static void aNewObject() {
        StolenHours x = new StolenHours();
        for (int sort = 0; sort < 4; sort++) {
            Check.due("new count " + sort, x.count(sort), 0);
        }
        Check.due("count -1", x.count(-1), -2);
        Check.due("count 4", x.count(4), -2);
        Check.due("new fault", x.fault(0), 0);
        Check.due("new fault's place", x.fault(1), NONE);
        Check.due("new street", x.street(0, 0), -2);
        Check.due("new deed", x.deed(0, NONE, 0), -2);
        Check.due("new fact", x.fact(0, NONE, 0), -2);
        Check.due("new swap", x.swap(0, 0), -1000);
        for (int k = -1; k < 4; k++) {
            Check.due("new again " + k, x.again(k), false);
        }
        Check.due("new tape", x.end(1), NONE);
        Check.due("new tape's end", x.end(0), 0);
        Check.due("NONE", StolenHours.NONE, -1);
    }

    private static void feed() {
        StolenHours x = new StolenHours();
        // "minutes 10;people 4;" with the highest byte of each number first
        Check.due("feed", x.feed(1835626101, 1952805664, 825244528, 1701802092, 1696609339), 20);
        Check.due("text fed", x.text(0, NONE), 0);
        Check.due("minutes fed", x.street(0, 0), 10);
        Check.due("people fed", x.street(0, 1), 4);
        Check.due("feed behind a text", x.feed(-1, 0, 0, 0, 0), 20);
        Check.due("text of byte 255", x.text(0, NONE), NONE);
        Check.due("place of byte 255", x.fault(1), 0);
        for (int i = 1; i <= 30; i++) {
            Check.due("feed " + i, x.feed(i, i, i, i, i), 20 * i);
        }
        Check.due("feed 31", x.feed(1, 1, 1, 1, 1), NONE);
        Check.due("end 601", x.end(601), NONE);
        Check.due("end 581", x.end(581), 581);
        Check.due("feed to 601", x.feed(1, 1, 1, 1, 1), NONE);
        Check.due("581 stay", x.end(582), NONE);
        Check.due("end 580", x.end(580), 580);
        Check.due("feed to 600", x.feed(1, 1, 1, 1, 1), 600);
        Check.due("end 600", x.end(600), 600);
    }

    private static void end() {
        StolenHours x = new StolenHours();
        Check.put(x, "people 4;minutes 10;");
        Check.due("end of more", x.end(21), NONE);
        Check.due("end of -1", x.end(-1), NONE);
        Check.due("end of least int", x.end(Integer.MIN_VALUE), NONE);
        Check.due("end of all", x.end(20), 20);
        Check.due("end of 9", x.end(9), 9);
        Check.due("end of what was there", x.end(20), NONE);
        // "people 3;" and 11 blanks come behind the nine that stay
        Check.due("feed behind them", x.feed(1885695856, 1818566707, 991961120, 538976288, 538976288), 29);
        Check.due("text of both", x.text(0, NONE), 0);
        Check.due("minutes of both", x.street(0, 0), 12);
        Check.due("people of both", x.street(0, 1), 3);
    }

    private static void takingTexts() {
        StolenHours x = new StolenHours();
        String[] texts = {"minutes 5;", "dearer 0;dearer 0;", "gone 3;", "hands 5;"};
        for (int sort = 0; sort < 4; sort++) {
            Check.due("first of " + sort, Check.tell(x, sort, NONE, texts[sort]), 0);
            Check.due("count of one " + sort, x.count(sort), 1);
            Check.due("tape taken", x.end(1), NONE);
            Check.due("second of " + sort, Check.tell(x, sort, NONE, ""), 1);
            Check.due("count of two " + sort, x.count(sort), 2);
            Check.due("third of " + sort, Check.tell(x, sort, NONE, ""), -2);
            Check.due("count of still two " + sort, x.count(sort), 2);
        }
        Check.due("street 0", x.street(0, 0), 5);
        Check.due("street 1", x.street(1, 0), 12);
        Check.due("year 0", x.deed(0, NONE, 0), 2);
        Check.due("year 1", x.deed(1, NONE, 0), 0);
        Check.due("log 0", x.fact(0, NONE, 0), 1);
        Check.due("log 1", x.fact(1, NONE, 0), 0);
        Check.due("swaps 0", x.swap(0, 0), 5);
        Check.due("swaps 1", x.swap(1, 0), 3);
        Check.due("in the place of one", Check.tell(x, 0, 1, "minutes 7;business 1 0 0 0;"), 1);
        Check.due("in the place of the first", Check.tell(x, 0, 0, "people 1;"), 0);
        Check.due("new street 0", x.street(0, 0), 12);
        Check.due("new street 1", x.street(1, 0), 7);
        Check.due("new year", Check.tell(x, 1, 0, "sell 1 2;"), 0);
        Check.due("new year's deeds", x.deed(0, NONE, 0), 1);
        Check.due("new log", Check.tell(x, 2, 1, "there 2;there 3;"), 1);
        Check.due("new log's facts", x.fact(1, NONE, 0), 2);
        Check.due("new swaps", Check.tell(x, 3, 0, "hands 2;"), 0);
        Check.due("new swaps' hands", x.swap(0, 0), 2);
        nothingOfBefore(x);
    }

    private static void nothingOfBefore(StolenHours x) {
        Check.tell(x, 0, 1, "minutes 20;people 4;coins 0 3;price 0 9 7;has 1 0 9;business 1 0 0 0;");
        Check.due("text of nothing", Check.tell(x, 0, 1, ""), 1);
        int[] want = {0, 12, 1, 2, 2, 0, 10, 20, 105, 1, 205, NONE, 20, -2};
        for (int i = 0; i < want.length; i += 2) {
            Check.due("nothing of before, " + want[i], x.street(1, want[i]), want[i + 1]);
        }
        Check.tell(x, 1, 1, "sell 0 0;sell 0 1;");
        Check.tell(x, 1, 1, "dearer 5;");
        Check.due("no deed of before", x.deed(1, NONE, 0), 1);
        Check.due("no number of before", x.deed(1, 0, 2), NONE);
        Check.tell(x, 2, 1, "gone 0;gone 1;");
        Check.tell(x, 2, 1, "there 7;");
        Check.due("no fact of before", x.fact(1, NONE, 0), 1);
        Check.tell(x, 3, 1, "hands 6;worth 0 1 9;worth 5 5 2;");
        Check.tell(x, 3, 1, "");
        Check.due("no hands of before", x.swap(1, 0), 3);
        Check.due("no worth of before", x.swap(1, 101), 0);
    }

    private static void textsThatAreNotRead() {
        StolenHours x = Check.withStreet("minutes 5;");
        int[][] calls = {{-1, NONE}, {4, NONE}, {0, 1}, {0, 2}, {0, -2}, {1, 0}, {2, 0}, {3, 0}, {Integer.MAX_VALUE, 0},
            {0, Integer.MAX_VALUE}, {0, Integer.MIN_VALUE}};
        for (int[] call : calls) {
            String name = "text(" + call[0] + ", " + call[1] + ")";
            Check.due("fault before " + name, Check.tell(x, 0, NONE, "minutes 5"), NONE);
            Check.due("its fault", x.fault(0), 1);
            Check.due("its place", x.fault(1), 9);
            Check.due(name, Check.tell(x, call[0], call[1], "?"), -2);
            Check.due("fault of " + name, x.fault(0), 0);
            Check.due("place of " + name, x.fault(1), NONE);
            Check.due("tape of " + name, x.end(1), NONE);
        }
        Check.due("a fault tells nothing", x.street(0, 0), 5);
        Check.due("a fault in the place of one", Check.tell(x, 0, 0, "minutes 9;people 5;"), NONE);
        Check.due("tells nothing", x.street(0, 0), 5);
        Check.due("empties the tape", x.end(1), NONE);
        Check.due("counts nothing", x.count(0), 1);
        Check.due("fault -1", x.fault(-1), NONE);
        Check.due("fault 2", x.fault(2), NONE);
        Check.due("without a fault", Check.tell(x, 0, 0, "minutes 9;"), 0);
        Check.due("fault 0", x.fault(0), 0);
        Check.due("place NONE", x.fault(1), NONE);
    }

    private static void faulty(int sort, String text, int fault, int place) {
        StolenHours x = new StolenHours();
        String name = "text(" + sort + ") of " + text;
        Check.due(name, Check.tell(x, sort, NONE, text), fault == 0 ? 0 : NONE);
        Check.due("fault of " + name, x.fault(0), fault);
        Check.due("place of " + name, x.fault(1), place);
        Check.due("count of " + name, x.count(sort), fault == 0 ? 1 : 0);
    }

    private static void tokens() {
        faulty(0, "", 0, NONE);
        faulty(0, " \n ", 0, NONE);
        faulty(0, " minutes\n\n 07 ;people 3 ; ", 0, NONE);
        faulty(0, "minutes12;people3;", 0, NONE);
        faulty(0, "minutes", 1, 7);
        faulty(0, "minutes 12", 1, 10);
        faulty(0, "minutes 12 \n", 1, 12);
        faulty(0, "minutes 123;", 1, 8);
        faulty(0, "minutes 001;", 1, 8);
        faulty(0, "minutes  ;", 1, 9);
        faulty(0, "minutes x;", 1, 8);
        faulty(0, "minutes 1 2;", 1, 10);
        faulty(0, "minutes 1;;", 1, 10);
        faulty(0, ";", 1, 0);
        faulty(0, " 12", 1, 1);
        faulty(0, "123", 1, 0);
        faulty(0, "minutes 3 123;", 1, 10);
        faulty(0, "minute 3;", 1, 0);
        faulty(0, "minutess 3;", 1, 0);
        faulty(0, "minutesz 3;", 1, 0);
        faulty(0, "minutesa 3;", 1, 0);
        faulty(0, "xinutes 3;", 1, 0);
        faulty(0, "minutex 3;", 1, 0);
        faulty(0, "people 0people 2;", 1, 8);
        faulty(0, "Minutes 3;", 1, 0);
        faulty(0, "minutes 3people 2;", 1, 9);
        faulty(0, "minutes\t3;", 1, 7);
        faulty(0, "minutes 3\r;", 1, 9);
        faulty(0, "minutes 3;\0", 1, 10);
        faulty(0, "minutes 3;\u00e9", 1, 10);
        faulty(0, "minutes 3;`", 1, 10);
        faulty(0, "minutes 3;{", 1, 10);
        faulty(0, "minutes -3;", 1, 8);
        faulty(0, "minutes 3;/", 1, 10);
        faulty(0, "minutes 3:", 1, 9);
        faulty(0, "coins 0;", 1, 7);
        faulty(0, "price 0 0;", 1, 9);
        faulty(0, "has 0 0;", 1, 7);
        faulty(0, "business 1 0 0;", 1, 14);
        String[][] words = {{"minutes 3;", "people 3;", "coins 0 3;", "price 0 0 3;", "has 0 0 3;", "business 1 0 3 0;"},
            {"buy 0 3;", "think 0 3;", "steal 0 3;", "sell 0 3;", "do 0 0 3;", "dearer 3;", "cheaper 3;"},
            {"gone 3;", "there 3;"}, {"hands 3;", "worth 0 1 3;"}};
        for (int sort = 0; sort < 4; sort++) {
            for (int other = 0; other < 4; other++) {
                for (String word : words[other]) {
                    faulty(sort, word, sort == other ? 0 : 1, sort == other ? NONE : 0);
                }
            }
        }
    }

    /** What was behind the tape's end before belongs to no token. */
    private static void cutTexts() {
        StolenHours x = new StolenHours();
        String[] texts = {"minutesa", "minutes 12", "minutes 123", "minutes 3;x"};
        int[] ends = {7, 9, 10, 10};
        int[] places = {7, 9, 10, NONE};
        for (int i = 0; i < texts.length; i++) {
            Check.put(x, texts[i]);
            x.end(ends[i]);
            Check.due("text cut from " + texts[i], x.text(0, x.count(0) == 0 ? NONE : 0), places[i] == NONE ? 0 : NONE);
            Check.due("place cut from " + texts[i], x.fault(1), places[i]);
        }
        faulty(0, Check.times(" ", 593) + "minutes", 1, 600);
        faulty(0, Check.times(" ", 591) + "minutes 9", 1, 600);
        faulty(0, Check.times(" ", 590) + "minutes 9;", 0, NONE);
        faulty(0, Check.times(" ", 600), 0, NONE);
        faulty(0, Check.times("minutes 9;", 60), 0, NONE);
        faulty(0, Check.times("minutes 9;", 59) + "minutes 9?", 1, 599);
    }

    private static void faultsOfStreets() {
        faulty(0, "minutes 1;", 0, NONE);
        faulty(0, "minutes 40;", 0, NONE);
        faulty(0, "minutes 0;", 2, 8);
        faulty(0, "minutes 41;", 2, 8);
        faulty(0, "people 1;", 0, NONE);
        faulty(0, "people 4;", 0, NONE);
        faulty(0, "people 0;", 2, 7);
        faulty(0, "people 5;", 2, 7);
        faulty(0, "coins 1 99;coins 0 0;", 0, NONE);
        faulty(0, "coins 4 10;", 2, 6);
        faulty(0, "coins 2 5;", 4, 10);
        faulty(0, "coins 2 5; ", 4, 11);
        faulty(0, "coins 2 5;people 3;", 0, NONE);
        faulty(0, "coins 3 5;people 3;", 4, 19);
        faulty(0, "price 0 11 9;", 0, NONE);
        faulty(0, "price 2 1 3;", 2, 8);
        faulty(0, "price 2 2 3;", 0, NONE);
        faulty(0, "price 0 0 10;", 2, 10);
        faulty(0, "price 40 40 1;", 2, 6);
        faulty(0, "price 0 40 1;", 2, 8);
        faulty(0, "price 0 12 1;", 4, 13);
        faulty(0, "price 0 12 1;minutes 13;", 0, NONE);
        faulty(0, "price 0 39 1;minutes 40;", 0, NONE);
        faulty(0, "has 1 0 11;", 0, NONE);
        faulty(0, "has 0 5 4;", 2, 8);
        faulty(0, "has 4 0 0;", 2, 4);
        faulty(0, "has 0 40 0;", 2, 6);
        faulty(0, "has 0 0 40;", 2, 8);
        faulty(0, "has 2 0 0;", 4, 10);
        faulty(0, "has 0 0 12;", 4, 11);
        faulty(0, "has 0 12 12;has 0 0 0;minutes 12;", 4, 33);
        faulty(0, "business 1 11 11 99;", 0, NONE);
        faulty(0, "business 9 0 0 0;", 0, NONE);
        faulty(0, "business 0 0 0 0;", 2, 9);
        faulty(0, "business 10 0 5 1;", 2, 9);
        faulty(0, "business 1 5 4 1;", 2, 13);
        faulty(0, "business 1 40 40 1;", 2, 11);
        faulty(0, "business 1 0 40 1;", 2, 13);
        faulty(0, "business 1 0 12 1;", 4, 18);
        faulty(0, "business 1 0 12 1;minutes 13;", 0, NONE);
        faulty(0, "minutes 3;", 0, NONE);
        faulty(0, "business 1 3 3 1;minutes 3;", 4, 27);
        String six = Check.times("business 1 0 0 0;", 6);
        faulty(0, six, 0, NONE);
        faulty(0, six + "business 1 0 0 0;", 3, 102);
        faulty(0, six + " business 1 0 0 0;business 1 0 0 0;", 3, 103);
        faulty(0, six + "business 0 0 0 0;", 3, 102);
    }

    private static void faultsOfOtherTexts() {
        for (String word : new String[] {"buy", "think", "steal", "sell"}) {
            int at = word.length() + 1;
            faulty(1, word + " 3 39;", 0, NONE);
            faulty(1, word + " 4 0;", 2, at);
            faulty(1, word + " 0 40;", 2, at + 2);
            faulty(1, word + " 0;", 1, at + 1);
            faulty(1, word + " 0 0 0;", 1, at + 4);
        }
        faulty(1, "do 3 5 39;", 0, NONE);
        faulty(1, "do 4 0 0;", 2, 3);
        faulty(1, "do 0 6 0;", 2, 5);
        faulty(1, "do 0 0 40;", 2, 7);
        faulty(1, "do 0 0;", 1, 6);
        for (String word : new String[] {"dearer", "cheaper"}) {
            faulty(1, word + " 39;", 0, NONE);
            faulty(1, word + " 40;", 2, word.length() + 1);
            faulty(1, word + " 0 0;", 1, word.length() + 3);
        }
        faulty(1, Check.times("dearer 0;", 40), 0, NONE);
        faulty(1, Check.times("dearer 0;", 41), 3, 360);
        faulty(1, Check.times("dearer 0;", 40) + "buy 9 9;", 3, 360);
        faulty(2, "gone 39;there 39;", 0, NONE);
        faulty(2, "gone 40;", 2, 5);
        faulty(2, "there 40;", 2, 6);
        faulty(2, "gone;", 1, 4);
        faulty(2, Check.times("there 0;", 8), 0, NONE);
        faulty(2, Check.times("there 0;", 8) + "gone 0;", 3, 64);
        faulty(3, "hands 2;", 0, NONE);
        faulty(3, "hands 6;", 0, NONE);
        faulty(3, "hands 1;", 2, 6);
        faulty(3, "hands 7;", 2, 6);
        faulty(3, "hands 6;worth 5 5 9;worth 0 0 0;", 0, NONE);
        faulty(3, "worth 6 0 0;", 2, 6);
        faulty(3, "worth 0 6 0;", 2, 8);
        faulty(3, "worth 0 0 10;", 2, 10);
        faulty(3, "worth 3 0 1;", 4, 12);
        faulty(3, "worth 0 3 1;", 4, 12);
        faulty(3, "worth 0 3 1;hands 4;", 0, NONE);
        faulty(3, "worth 2 2 1;hands 2;", 4, 20);
        faulty(3, "worth 0 1;", 1, 9);
    }

    private static void whichFaultIsTold() {
        String seven = Check.times("business 1 0 0 0;", 7);
        faulty(0, "minutes 41;?", 1, 11);
        faulty(0, seven + "?", 1, 119);
        faulty(0, "coins 3 1;?", 1, 10);
        faulty(0, "coins 3 1;minutes 41;", 2, 18);
        faulty(0, "minutes 41;people 9;", 2, 8);
        faulty(0, "price 50 40 10;", 2, 6);
        faulty(0, "minutes 41;" + seven, 2, 8);
        faulty(0, seven + "minutes 41;", 3, 102);
        faulty(0, "coins 3 1;" + seven, 3, 112);
        faulty(0, "business 0 0 0 0;" + Check.times("business 1 0 0 0;", 6), 2, 9);
        faulty(0, Check.times("business 1 0 0 0;", 5) + "business 1 3 2 0;business 1 0 0 0;", 2, 98);
        faulty(0, "business 1 0 12 10", 1, 18);
        faulty(3, "worth 3 0 1;hands 7;", 2, 18);
    }

    private static void tellAll(StolenHours x, int n) {
        int at = x.count(0) == 0 ? NONE : 0;
        Check.tell(x, 0, at, "minutes " + n + ";people 4;coins 3 " + n + ";price 0 1 " + n + ";has 3 2 2;business " + n + " 0 3 " + n + ";");
        Check.tell(x, 1, at, Check.times("do 1 2 " + n + ";", n));
        Check.tell(x, 2, at, Check.times("gone " + n + ";", n));
        Check.tell(x, 3, at, "hands " + Math.min(6, n) + ";worth 1 0 " + n + ";");
        Check.tell(x, 0, NONE, "minutes 3;" + Check.times(" ", n));
        Check.tell(x, 0, 0, Check.times(" ", n) + "?");
        Check.put(x, "minutes " + n + ";");
    }

    private static void areTold(StolenHours x, int n) {
        String name = " of what is told by " + n;
        Check.due("fault" + name, x.fault(0), 1);
        Check.due("place" + name, x.fault(1), n);
        Check.due("minutes" + name, x.street(0, 0), n);
        Check.due("people" + name, x.street(0, 1), 4);
        Check.due("coins" + name, x.street(0, 13), n);
        Check.due("price" + name, x.street(0, 101), n);
        Check.due("hands" + name, x.street(0, 202), 3);
        Check.due("length" + name, x.street(0, 20), n);
        Check.due("from" + name, x.street(0, 30), 0);
        Check.due("to" + name, x.street(0, 40), 3);
        Check.due("worth" + name, x.street(0, 50), n);
        Check.due("deeds" + name, x.deed(0, NONE, 0), n);
        Check.due("a deed" + name, x.deed(0, 0, 3), n);
        Check.due("facts" + name, x.fact(0, NONE, 0), n);
        Check.due("a fact" + name, x.fact(0, 0, 1), n);
        Check.due("swaps" + name, x.swap(0, 0), Math.min(6, n));
        Check.due("a worth" + name, x.swap(0, 106), n);
        Check.due("tape" + name, x.text(0, 1), 1);
        Check.due("tape's minutes" + name, x.street(1, 0), n);
    }

    private static void images() {
        StolenHours x = new StolenHours();
        Check.due("image -1", x.image(-1), false);
        Check.due("image 3", x.image(3), false);
        Check.due("again -1", x.again(-1), false);
        Check.due("again 3", x.again(3), false);
        Check.due("image 2", x.image(2), true);
        tellAll(x, 5);
        Check.due("again 0 without", x.again(0), false);
        Check.due("image 0", x.image(0), true);
        areTold(x, 5);
        tellAll(x, 4);
        x.end(0);
        tellTape(x, 7);
        Check.due("image 1", x.image(1), true);
        Check.due("again 0", x.again(0), true);
        Check.due("two streets", x.count(0), 2);
        areTold(x, 5);
        Check.due("again 1", x.again(1), true);
        Check.due("the tape of 1", x.end(7), 7);
        Check.due("the tape of 1 alone", x.end(8), NONE);
        Check.due("the street of 1", x.street(0, 0), 4);
        Check.due("again 0 once more", x.again(0), true);
        areTold(x, 5);
        Check.due("again 2", x.again(2), true);
        for (int sort = 0; sort < 4; sort++) {
            Check.due("nothing of " + sort, x.count(sort), 0);
        }
        Check.due("no fault of 2", x.fault(0), 0);
        Check.due("no place of 2", x.fault(1), NONE);
        Check.due("no tape of 2", x.end(1), NONE);
        Check.due("image 0 anew", x.image(0), true);
        Check.due("again 1 to be sure", x.again(1), true);
        Check.due("again 0 as it is now", x.again(0), true);
        Check.due("no street of 0", x.count(0), 0);
    }

    private static void tellTape(StolenHours x, int n) {
        x.feed(0, 0, 0, 0, 0);
        x.end(n);
    }
}
