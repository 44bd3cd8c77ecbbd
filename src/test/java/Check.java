/** What all tests use: counting wrong answers, and putting a text on the tape. */
final class Check {
    static final String STREET = "minutes 10;people 2;coins 0 9;coins 1 5;price 0 9 2;price 3 4 5;"
        + "has 0 0 1;has 1 5 6;business 2 0 9 7;business 3 2 8 12;business 1 4 4 3;";

    private static int wrong = 0;
    private static int asked = 0;

    private Check() {
    }

    static void due(String call, long got, long want) {
        asked++;
        if (got != want) {
            wrong++;
            if (wrong <= 50) {
                System.out.println(call + " answered " + got + ", due is " + want);
            }
        }
    }

    static void due(String call, boolean got, boolean want) {
        due(call, got ? 1 : 0, want ? 1 : 0);
    }

    static int wrongOnes() {
        return wrong;
    }

    static void finish(String name) {
        System.out.println(name + ": " + asked + " answers, " + wrong + " wrong");
        if (wrong != 0) {
            System.exit(1);
        }
    }

    /** Puts a text on the tape, which was empty or is emptied. */
    static void put(StolenHours x, String text) {
        x.end(0);
        int length = text.length();
        for (int i = 0; i < length; i += 20) {
            x.feed(number(text, i), number(text, i + 4), number(text, i + 8), number(text, i + 12), number(text, i + 16));
        }
        if (x.end(length) != length) {
            throw new IllegalStateException("the text is longer than the tape: " + length);
        }
    }

    private static int number(String text, int from) {
        int number = 0;
        for (int i = from; i < from + 4; i++) {
            int sign = i < text.length() ? text.charAt(i) & 255 : 32;
            number = number << 8 | sign;
        }
        return number;
    }

    static int tell(StolenHours x, int sort, int at, String text) {
        put(x, text);
        return x.text(sort, at);
    }

    /** A new object with one street. */
    static StolenHours withStreet(String text) {
        return with(0, text);
    }

    /** A new object with one text of a sort, which has no fault. */
    static StolenHours with(int sort, String text) {
        StolenHours x = new StolenHours();
        due("text(" + sort + ", NONE) of " + text, tell(x, sort, StolenHours.NONE, text), 0);
        return x;
    }

    static void due(String call, String got, String want) {
        due(call + " (" + got + ", not " + want + ")", got.equals(want), true);
    }

    /** The numbers around those from least to most, and some far off; none of them is one of those. */
    static int[] outside(int least, int most) {
        return new int[] {Integer.MIN_VALUE, Integer.MIN_VALUE + 1, least - 65536, least - 256, least - 2, least - 1,
            most + 1, most + 2, most + 256, most + 65536, Integer.MAX_VALUE - 1, Integer.MAX_VALUE};
    }

    /** That the tape has so many bytes; it stays as it is. */
    static void hasTape(String call, StolenHours x, int bytes) {
        due("one byte more of the tape, " + call, x.end(bytes + 1), StolenHours.NONE);
        due("all bytes of the tape, " + call, x.end(bytes), bytes);
    }

    /** Most of what is told, without the tape, in one text: 110 calls. */
    static String told(StolenHours x) {
        StringBuilder all = new StringBuilder("fault " + x.fault(0) + " " + x.fault(1));
        for (int sort = 0; sort < 4; sort++) {
            all.append(", ").append(x.count(sort));
        }
        int[] streets = {0, 1, 2, 10, 11, 12, 13, 20, 30, 40, 50, 25, 35, 45, 55, 100, 111, 139, 200, 211, 239};
        int[] swaps = {0, 1, 2, 10, 15, 20, 25, 100, 101, 106, 135};
        for (int one = 0; one < 2; one++) {
            all.append("; street");
            for (int what : streets) {
                all.append(' ').append(x.street(one, what));
            }
            all.append("; year ").append(x.deed(one, StolenHours.NONE, 0));
            for (int k : new int[] {0, 1, 39}) {
                for (int what = 0; what < 4; what++) {
                    all.append(' ').append(x.deed(one, k, what));
                }
            }
            all.append("; log ").append(x.fact(one, StolenHours.NONE, 0));
            for (int k : new int[] {0, 1, 7}) {
                all.append(' ').append(x.fact(one, k, 0)).append(' ').append(x.fact(one, k, 1));
            }
            all.append("; swaps");
            for (int what : swaps) {
                all.append(' ').append(x.swap(one, what));
            }
        }
        return all.toString();
    }

    static String times(String part, int n) {
        StringBuilder all = new StringBuilder();
        for (int i = 0; i < n; i++) {
            all.append(part);
        }
        return all.toString();
    }
}
