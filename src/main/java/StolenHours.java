import java.util.Arrays;

/** Streets, years, logs and swaps told as texts, and what can be worked out of them. */
public final class StolenHours {
    public static final int NONE = -1;

    private static final int MISSING = -2;
    private static final int FAR_OFF = -1000;

    private static final int STREET_SORT = 0;
    private static final int YEAR_SORT = 1;
    private static final int LOG_SORT = 2;
    private static final int SWAPS_SORT = 3;
    private static final int SORTS = 4;
    private static final int PER_SORT = 2;

    private static final int TAPE = 600;
    private static final int MINUTES = 40;
    private static final int PEOPLE = 4;
    private static final int BUSINESS = 6;
    private static final int SUBSETS = 64;
    private static final int DEEDS = 40;
    private static final int FACTS = 8;
    private static final int HANDS = 6;
    private static final int IMAGES = 3;
    private static final int DRAWS = 60;
    private static final int DAYS = 9;
    private static final int KEPT = 9;
    private static final int TENTHS = 10;
    private static final int TOP_PRICE = 9;
    private static final long ALL_MINUTES = (1L << MINUTES) - 1;

    private static final int MINUTES_LINE = 0;
    private static final int PEOPLE_LINE = 1;
    private static final int COINS_LINE = 2;
    private static final int PRICE_LINE = 3;
    private static final int HAS_LINE = 4;
    private static final int BUSINESS_LINE = 5;
    private static final int BUY = 6;
    private static final int THINK = 7;
    private static final int STEAL = 8;
    private static final int SELL = 9;
    private static final int DO = 10;
    private static final int DEARER = 11;
    private static final int CHEAPER = 12;
    private static final int GONE = 13;
    private static final int THERE = 14;
    private static final int HANDS_LINE = 15;
    private static final int WORTH_LINE = 16;

    private final Told told = new Told();
    private final Told[] images = new Told[IMAGES];
    private final boolean[] kept = new boolean[IMAGES];
    private final Reader reader = new Reader();
    private final Play play = new Play();
    private final Chores chores = new Chores();
    private final Cover cover = new Cover();
    private final Thefts thefts = new Thefts();
    private final Trade trade = new Trade();
    private final int[] margins = new int[MINUTES + 1];

    public StolenHours() {
        for (int k = 0; k < IMAGES; k++) {
            images[k] = new Told();
        }
    }

    // The tape and the texts.

    public int feed(int a, int b, int c, int d, int e) {
        if (told.length > TAPE - 20) {
            return NONE;
        }
        told.putNumber(a);
        told.putNumber(b);
        told.putNumber(c);
        told.putNumber(d);
        told.putNumber(e);
        return told.length;
    }

    public int end(int n) {
        if (n < 0 || n > told.length) {
            return NONE;
        }
        told.length = n;
        return n;
    }

    public int text(int sort, int at) {
        int place = placeFor(sort, at);
        if (place < 0) {
            told.length = 0;
            told.fault = 0;
            told.faultPlace = NONE;
            return MISSING;
        }
        reader.read(told, sort);
        told.length = 0;
        told.fault = reader.fault;
        told.faultPlace = reader.faultPlace;
        if (reader.fault != 0) {
            return NONE;
        }
        told.put(reader, sort, place);
        return place;
    }

    private int placeFor(int sort, int at) {
        if (sort < 0 || sort >= SORTS) {
            return NONE;
        }
        int many = told.many[sort];
        if (at == NONE) {
            return many < PER_SORT ? many : NONE;
        }
        return at >= 0 && at < many ? at : NONE;
    }

    public int fault(int what) {
        if (what == 0) {
            return told.fault;
        }
        return what == 1 ? told.faultPlace : NONE;
    }

    public int count(int sort) {
        return sort >= 0 && sort < SORTS ? told.many[sort] : MISSING;
    }

    public boolean image(int k) {
        if (k < 0 || k >= IMAGES) {
            return false;
        }
        images[k].copyFrom(told);
        kept[k] = true;
        return true;
    }

    public boolean again(int k) {
        if (k < 0 || k >= IMAGES || !kept[k]) {
            return false;
        }
        told.copyFrom(images[k]);
        return true;
    }

    private boolean hasStreet(int street) {
        return street >= 0 && street < told.many[STREET_SORT];
    }

    private boolean hasYear(int year) {
        return year >= 0 && year < told.many[YEAR_SORT];
    }

    private boolean hasLog(int log) {
        return log >= 0 && log < told.many[LOG_SORT];
    }

    private boolean hasSwaps(int swaps) {
        return swaps >= 0 && swaps < told.many[SWAPS_SORT];
    }

    private boolean hasPerson(int street, int person) {
        return hasStreet(street) && told.streets[street].hasPerson(person);
    }

    private boolean hasPersonAndSet(int street, int person, int set) {
        return hasPerson(street, person) && told.streets[street].hasSet(set);
    }

    /** Whether what is one of the many numbers from base on. */
    private static boolean isAmong(int what, int base, int many) {
        return what >= base && what < base + many;
    }

    // Streets and years as told.

    public int street(int street, int what) {
        if (!hasStreet(street)) {
            return MISSING;
        }
        Street one = told.streets[street];
        switch (what) {
            case 0:
                return one.minutes;
            case 1:
                return one.people;
            case 2:
                return one.businesses;
            default:
                return partOfStreet(one, what);
        }
    }

    private static int partOfStreet(Street one, int what) {
        if (isAmong(what, 10, one.people)) {
            return one.coins[what - 10];
        }
        if (isAmong(what, 20, one.businesses)) {
            return one.length[what - 20];
        }
        if (isAmong(what, 30, one.businesses)) {
            return one.from[what - 30];
        }
        if (isAmong(what, 40, one.businesses)) {
            return one.to[what - 40];
        }
        if (isAmong(what, 50, one.businesses)) {
            return one.worth[what - 50];
        }
        if (isAmong(what, 100, one.minutes)) {
            return one.price[what - 100];
        }
        if (isAmong(what, 200, one.minutes)) {
            return one.owner[what - 200];
        }
        return MISSING;
    }

    public int deed(int year, int k, int what) {
        if (!hasYear(year)) {
            return MISSING;
        }
        Lines deeds = told.years[year];
        if (k == NONE) {
            return what == 0 ? deeds.many : MISSING;
        }
        if (k < 0 || k >= deeds.many || what < 0 || what > 3) {
            return MISSING;
        }
        return what == 0 ? deeds.kind[k] - BUY : deeds.number(k, what - 1);
    }

    public int till(int street, int year) {
        if (!hasStreet(street) || !hasYear(year)) {
            return NONE;
        }
        Lines deeds = told.years[year];
        return play.live(told.streets[street], deeds, deeds.many);
    }

    public int state(int street, int year, int n, int what) {
        if (!hasStreet(street) || !hasYear(year)) {
            return MISSING;
        }
        Lines deeds = told.years[year];
        if (n < 0 || n > deeds.many || play.live(told.streets[street], deeds, n) < n) {
            return MISSING;
        }
        return play.answer(what);
    }

    public int after(int street, int year, int what) {
        if (till(street, year) == NONE) {
            return MISSING;
        }
        switch (what) {
            case 0:
                return play.thinker;
            case 1:
                return play.richest();
            case 2:
                return play.victim();
            case 3:
                return play.restless();
            case 4:
                return play.timesMoved(play.restless());
            default:
                return MISSING;
        }
    }

    public int drawn(int street, int seed, int n, int what) {
        if (!hasStreet(street) || n < 0 || n > DRAWS) {
            return MISSING;
        }
        play.drawDeeds(told.streets[street], seed, n);
        return play.answer(what);
    }

    // Business of a street as told.

    public int run(int street, int person, int business, boolean cost) {
        if (!hasPerson(street, person) || !told.streets[street].hasBusiness(business)) {
            return NONE;
        }
        Street one = told.streets[street];
        chores.weighRuns(one, person, ALL_MINUTES);
        return cost ? chores.bestCost(one, business) : chores.bestFirst(one, business);
    }

    public int errands(int street, int person, int business, int k) {
        if (!hasPersonAndSet(street, person, business)) {
            return NONE;
        }
        Street one = told.streets[street];
        chores.weighRuns(one, person, ALL_MINUTES);
        chores.arrange(one, business);
        if (k == NONE) {
            return chores.costOfSet(one, business);
        }
        return chores.firstMinuteIn(one, business, k);
    }

    public int plan(int street, int person, boolean much) {
        if (!hasPerson(street, person)) {
            return NONE;
        }
        chores.choose(told.streets[street], person, ALL_MINUTES);
        return much ? chores.chosenGain : chores.chosenSet;
    }

    public int left(int street, int person) {
        if (!hasPerson(street, person)) {
            return NONE;
        }
        Street one = told.streets[street];
        chores.choose(one, person, ALL_MINUTES);
        return one.coins[person] + chores.chosenGain;
    }

    public int missed(int street, int person, int minute) {
        if (!hasPerson(street, person) || !told.streets[street].hasMinute(minute)) {
            return NONE;
        }
        Street one = told.streets[street];
        chores.choose(one, person, ALL_MINUTES);
        int whole = chores.chosenGain;
        chores.choose(one, person, ALL_MINUTES & ~(1L << minute));
        return whole - chores.chosenGain;
    }

    public int gift(int street, int person, int business, boolean cost) {
        if (!hasPersonAndSet(street, person, business)) {
            return NONE;
        }
        Street one = told.streets[street];
        chores.weighRuns(one, person, ALL_MINUTES);
        chores.arrange(one, business);
        chores.give(one, person, business);
        return cost ? chores.giftCost : chores.giftMinute;
    }

    public int early(int street, int person, int business) {
        if (!hasPersonAndSet(street, person, business)) {
            return NONE;
        }
        Street one = told.streets[street];
        chores.weighRuns(one, person, one.held(person));
        chores.arrange(one, business);
        return chores.lastUsed(one, business);
    }

    public int ranked(int street, int person, int k) {
        if (!hasPerson(street, person)) {
            return NONE;
        }
        Street one = told.streets[street];
        chores.weighRuns(one, person, ALL_MINUTES);
        return chores.atRank(one, k);
    }

    public int shared(int street, int a, int b) {
        if (a == b || !hasPerson(street, a) || !hasPerson(street, b)) {
            return NONE;
        }
        Street one = told.streets[street];
        long hers = one.held(a);
        long his = one.held(b);
        return one.possible(hers | his) & ~one.possible(hers) & ~one.possible(his);
    }

    public int wanted(int street, boolean many) {
        if (!hasStreet(street)) {
            return MISSING;
        }
        Street one = told.streets[street];
        int best = NONE;
        int most = 0;
        for (int m = 0; m < one.minutes; m++) {
            int runs = one.runsOver(m);
            if (runs > most) {
                most = runs;
                best = m;
            }
        }
        return many ? most : best;
    }

    // Minutes of a street as told.

    public int halves(int street, boolean first) {
        if (!hasStreet(street)) {
            return FAR_OFF;
        }
        Street one = told.streets[street];
        int taken = 0;
        margins[one.minutes] = 0;
        for (int m = one.minutes - 1; m >= 0; m--) {
            taken = bestTaking(one, m);
            margins[m] = marginOf(one, m, taken);
        }
        return first ? taken : margins[0];
    }

    private int bestTaking(Street one, int m) {
        int best = 1;
        for (int t = 2; t <= 3 && m + t <= one.minutes; t++) {
            if (marginOf(one, m, t) > marginOf(one, m, best)) {
                best = t;
            }
        }
        return best;
    }

    private int marginOf(Street one, int m, int taken) {
        int sum = 0;
        for (int i = m; i < m + taken; i++) {
            sum += one.price[i];
        }
        return sum - margins[m + taken];
    }

    public int free(int street, int person, boolean first) {
        if (!hasPerson(street, person)) {
            return MISSING;
        }
        Street one = told.streets[street];
        int longest = 0;
        int start = NONE;
        int row = 0;
        for (int m = 0; m < one.minutes; m++) {
            row = one.owner[m] == person ? row + 1 : 0;
            if (row > longest) {
                longest = row;
                start = m - row + 1;
            }
        }
        return first ? start : longest;
    }

    public int corner(int street, int person, int k) {
        if (!hasPerson(street, person)) {
            return NONE;
        }
        Street one = told.streets[street];
        cover.solve(one, one.minutesMask() & ~one.held(person));
        return cover.answer(k);
    }

    public int robbed(int street, int person, int k) {
        if (!hasPerson(street, person)) {
            return NONE;
        }
        Street one = told.streets[street];
        cover.solve(one, one.held(person));
        return cover.answer(k);
    }

    // Tins and waiting.

    public long tin(int n, int k, int p, boolean under) {
        if (!isAmong(n, 0, KEPT + 1) || !isAmong(k, 0, KEPT + 1) || !isAmong(p, 0, TENTHS + 1)) {
            return NONE;
        }
        return lowest(waysLeft(n, k, p), power(TENTHS, n), under);
    }

    public int enough(int k, int p) {
        if (!isAmong(k, 1, KEPT) || !isAmong(p, 0, TENTHS + 1)) {
            return NONE;
        }
        for (int n = k; n <= KEPT; n++) {
            if (waysLeft(n, k, p) * 10 >= power(TENTHS, n) * 9) {
                return n;
            }
        }
        return NONE;
    }

    /** Of the 10^n ways a tin of n can fare, those that leave k or more. */
    private static long waysLeft(int n, int k, int p) {
        long sum = 0;
        for (int j = k; j <= n; j++) {
            sum += picks(n, j) * power(TENTHS - p, j) * power(p, n - j);
        }
        return sum;
    }

    private static long picks(int n, int j) {
        long ways = 1;
        for (int i = 1; i <= j; i++) {
            ways = ways * (n - j + i) / i;
        }
        return ways;
    }

    private static long power(long base, int exponent) {
        long product = 1;
        for (int i = 0; i < exponent; i++) {
            product *= base;
        }
        return product;
    }

    private static long lowest(long over, long under, boolean wantsUnder) {
        long divisor = commonDivisor(over, under);
        if (divisor < 1) {
            return NONE;
        }
        return (wantsUnder ? under : over) / divisor;
    }

    private static long commonDivisor(long a, long b) {
        long x = a;
        long y = b;
        for (int i = 0; i < 200 && y != 0; i++) {
            long rest = x % y;
            x = y;
            y = rest;
        }
        return x;
    }

    public long waits(int n, int what) {
        if (!isAmong(n, 1, DAYS) || !isAmong(what, 0, 3)) {
            return NONE;
        }
        long mean = 0;
        for (int days = 0; days < n - 1; days++) {
            mean = dayBefore(mean, power(10, days));
        }
        long scale = power(10, n - 1);
        if (what == 2) {
            return leastTaken(mean, scale);
        }
        return lowest(dayBefore(mean, scale), scale * 10, what == 1);
    }

    /** The mean, in parts of scale * 10, one day earlier than where it is mean parts of scale. */
    private static long dayBefore(long mean, long scale) {
        long sum = 0;
        for (int price = 0; price <= TOP_PRICE; price++) {
            sum += Math.max(price * scale, mean);
        }
        return sum;
    }

    private static int leastTaken(long mean, long scale) {
        int price = 0;
        while (price < TOP_PRICE && price * scale < mean) {
            price++;
        }
        return price;
    }

    // Logs.

    public int fact(int log, int k, int what) {
        if (!hasLog(log)) {
            return MISSING;
        }
        Lines facts = told.logs[log];
        if (k == NONE) {
            return what == 0 ? facts.many : MISSING;
        }
        if (k < 0 || k >= facts.many || what < 0 || what > 1) {
            return MISSING;
        }
        if (what == 1) {
            return facts.number(k, 0);
        }
        return facts.kind[k] == GONE ? 1 : 0;
    }

    public int fits(int log, int what) {
        if (!hasLog(log)) {
            return MISSING;
        }
        thefts.look(told.logs[log]);
        switch (what) {
            case 0:
                return thefts.many;
            case 1:
                return thefts.sureFirst;
            case 2:
                return thefts.sureLast;
            case 3:
                return thefts.seek();
            default:
                return what >= 10 ? thefts.codeAt(what - 10) : MISSING;
        }
    }

    public int span(int log, int what) {
        if (!hasLog(log)) {
            return NONE;
        }
        thefts.look(told.logs[log]);
        if (thefts.many == 0) {
            return NONE;
        }
        switch (what) {
            case 0:
                return thefts.shortest;
            case 1:
                return thefts.longest;
            case 2:
                return thefts.minutesIn(thefts.many);
            case 3:
                return thefts.minutesIn(0);
            default:
                return NONE;
        }
    }

    // Swaps.

    public int swap(int swaps, int what) {
        if (!hasSwaps(swaps)) {
            return FAR_OFF;
        }
        Swaps one = told.swaps[swaps];
        if (what == 0) {
            return one.hands;
        }
        if (isAmong(what, 100, HANDS * HANDS)) {
            int to = (what - 100) / HANDS;
            int whose = (what - 100) % HANDS;
            return to < one.hands && whose < one.hands ? one.worthTo(to, whose) : FAR_OFF;
        }
        trade.settle(one);
        if (what == 1) {
            return trade.gain(one);
        }
        if (what == 2) {
            return trade.rounds;
        }
        if (isAmong(what, 10, one.hands)) {
            return trade.gets[what - 10];
        }
        return isAmong(what, 20, one.hands) ? trade.round[what - 20] : FAR_OFF;
    }

    public int happy(int swaps, int what) {
        if (!hasSwaps(swaps)) {
            return NONE;
        }
        Swaps one = told.swaps[swaps];
        trade.settle(one);
        switch (what) {
            case 0:
                return trade.contented(one);
            case 1:
                return one.pairs();
            case 2:
                return trade.envy(one);
            default:
                return NONE;
        }
    }

    /** A street: its minutes, its people, its business. */
    private static final class Street {
        int minutes;
        int people;
        int businesses;
        final int[] coins = new int[PEOPLE];
        final int[] price = new int[MINUTES];
        final int[] owner = new int[MINUTES];
        final int[] length = new int[BUSINESS];
        final int[] from = new int[BUSINESS];
        final int[] to = new int[BUSINESS];
        final int[] worth = new int[BUSINESS];

        void clear() {
            minutes = 12;
            people = 2;
            businesses = 0;
            Arrays.fill(coins, 20);
            Arrays.fill(price, 1);
            Arrays.fill(owner, NONE);
        }

        void copyFrom(Street other) {
            minutes = other.minutes;
            people = other.people;
            businesses = other.businesses;
            System.arraycopy(other.coins, 0, coins, 0, PEOPLE);
            System.arraycopy(other.price, 0, price, 0, MINUTES);
            System.arraycopy(other.owner, 0, owner, 0, MINUTES);
            System.arraycopy(other.length, 0, length, 0, BUSINESS);
            System.arraycopy(other.from, 0, from, 0, BUSINESS);
            System.arraycopy(other.to, 0, to, 0, BUSINESS);
            System.arraycopy(other.worth, 0, worth, 0, BUSINESS);
        }

        boolean hasPerson(int person) {
            return person >= 0 && person < people;
        }

        boolean hasMinute(int minute) {
            return minute >= 0 && minute < minutes;
        }

        boolean hasBusiness(int business) {
            return business >= 0 && business < businesses;
        }

        boolean hasSet(int set) {
            return set >= 0 && set < subsets();
        }

        int subsets() {
            return 1 << businesses;
        }

        long minutesMask() {
            return (1L << minutes) - 1;
        }

        long held(int person) {
            long mask = 0;
            for (int m = 0; m < minutes; m++) {
                if (owner[m] == person) {
                    mask |= 1L << m;
                }
            }
            return mask;
        }

        /** Whether a business can be done from its first minute on by minutes of the mask. */
        boolean goesIn(int b, int first, long mask) {
            if (first < from[b] || first + length[b] - 1 > to[b]) {
                return false;
            }
            long window = ((1L << length[b]) - 1) << first;
            return (window & ~mask) == 0;
        }

        /** The business, as bits, that can be done by minutes of the mask. */
        int possible(long mask) {
            int bits = 0;
            for (int b = 0; b < businesses; b++) {
                for (int m = from[b]; m <= to[b]; m++) {
                    if (goesIn(b, m, mask)) {
                        bits |= 1 << b;
                    }
                }
            }
            return bits;
        }

        int costOfRun(int person, int b, int first) {
            int sum = 0;
            for (int m = first; m < first + length[b] && m < minutes; m++) {
                if (owner[m] != person) {
                    sum += price[m];
                }
            }
            return sum;
        }

        int runsOver(int minute) {
            int runs = 0;
            for (int b = 0; b < businesses; b++) {
                int lowest = Math.max(from[b], minute - length[b] + 1);
                int highest = Math.min(minute, to[b] - length[b] + 1);
                runs += Math.max(0, highest - lowest + 1);
            }
            return runs;
        }

        int worthOfSet(int set) {
            int sum = 0;
            for (int b = 0; b < businesses; b++) {
                if ((set >> b & 1) == 1) {
                    sum += worth[b];
                }
            }
            return sum;
        }
    }

    /** Lines in a row, each of a kind with up to three numbers: the deeds of a year, the facts of a log. */
    private static final class Lines {
        private static final int WIDTH = 3;

        final int most;
        final int[] kind;
        final int[] numbers;
        int many;

        Lines(int most) {
            this.most = most;
            kind = new int[most];
            numbers = new int[most * WIDTH];
        }

        void copyFrom(Lines other) {
            many = Math.min(other.many, most);
            System.arraycopy(other.kind, 0, kind, 0, many);
            System.arraycopy(other.numbers, 0, numbers, 0, many * WIDTH);
        }

        void append(int newKind, int a, int b, int c) {
            if (many >= most) {
                return;
            }
            kind[many] = newKind;
            numbers[many * WIDTH] = a;
            numbers[many * WIDTH + 1] = b;
            numbers[many * WIDTH + 2] = c;
            many++;
        }

        int number(int k, int index) {
            return numbers[k * WIDTH + index];
        }
    }

    /** Hands, and what the minute of each is worth to each. */
    private static final class Swaps {
        int hands;
        final int[] worth = new int[HANDS * HANDS];

        void clear() {
            hands = 3;
            Arrays.fill(worth, 0);
        }

        void copyFrom(Swaps other) {
            hands = other.hands;
            System.arraycopy(other.worth, 0, worth, 0, HANDS * HANDS);
        }

        int worthTo(int hand, int whose) {
            return worth[hand * HANDS + whose];
        }

        int pairs() {
            int couples = 0;
            for (int a = 0; a < hands; a++) {
                for (int b = a + 1; b < hands; b++) {
                    if (worthTo(a, b) > worthTo(a, a) && worthTo(b, a) > worthTo(b, b)) {
                        couples++;
                    }
                }
            }
            return couples;
        }
    }

    /** All that is told: the texts taken, the tape, the latest fault. */
    private static final class Told {
        final int[] many = new int[SORTS];
        final Street[] streets = new Street[PER_SORT];
        final Lines[] years = new Lines[PER_SORT];
        final Lines[] logs = new Lines[PER_SORT];
        final Swaps[] swaps = new Swaps[PER_SORT];
        final byte[] tape = new byte[TAPE];
        int length;
        int fault;
        int faultPlace = NONE;

        Told() {
            for (int i = 0; i < PER_SORT; i++) {
                streets[i] = new Street();
                years[i] = new Lines(DEEDS);
                logs[i] = new Lines(FACTS);
                swaps[i] = new Swaps();
            }
        }

        void copyFrom(Told other) {
            for (int i = 0; i < PER_SORT; i++) {
                streets[i].copyFrom(other.streets[i]);
                years[i].copyFrom(other.years[i]);
                logs[i].copyFrom(other.logs[i]);
                swaps[i].copyFrom(other.swaps[i]);
            }
            System.arraycopy(other.many, 0, many, 0, SORTS);
            System.arraycopy(other.tape, 0, tape, 0, TAPE);
            length = other.length;
            fault = other.fault;
            faultPlace = other.faultPlace;
        }

        void putNumber(int number) {
            for (int shift = 24; shift >= 0 && length < TAPE; shift -= 8) {
                tape[length] = (byte) (number >> shift);
                length++;
            }
        }

        /** Puts what was read at a place that is there, or that is the next one. */
        void put(Reader read, int sort, int place) {
            switch (sort) {
                case STREET_SORT:
                    streets[place].copyFrom(read.street);
                    break;
                case YEAR_SORT:
                    years[place].copyFrom(read.year);
                    break;
                case LOG_SORT:
                    logs[place].copyFrom(read.log);
                    break;
                default:
                    swaps[place].copyFrom(read.swaps);
                    break;
            }
            many[sort] = Math.max(many[sort], place + 1);
        }
    }

    /** The tape cut into tokens, one after the other. */
    private static final class Tokens {
        static final int OVER = 0;
        static final int WORD = 1;
        static final int NUMBER = 2;
        static final int STOP = 3;
        static final int WRONG = 4;

        final byte[] bytes = new byte[TAPE];
        int length;
        int next;
        int sort;
        int place;
        int value;

        void start(Told told) {
            System.arraycopy(told.tape, 0, bytes, 0, TAPE);
            length = told.length;
            next = 0;
        }

        void advance() {
            while (next < length && (bytes[next] == 10 || bytes[next] == 32)) {
                next++;
            }
            place = next;
            if (next >= length) {
                sort = OVER;
            } else if (isLetter(bytes[next])) {
                takeWord();
            } else if (isDigit(bytes[next])) {
                takeNumber();
            } else {
                sort = bytes[next] == ';' ? STOP : WRONG;
                next++;
            }
        }

        private void takeWord() {
            while (next < length && isLetter(bytes[next])) {
                next++;
            }
            sort = WORD;
        }

        private void takeNumber() {
            value = 0;
            while (next < length && isDigit(bytes[next])) {
                value = next - place < 2 ? value * 10 + bytes[next] - '0' : value;
                next++;
            }
            sort = next - place <= 2 ? NUMBER : WRONG;
        }

        boolean isWord(String word) {
            if (sort != WORD || word.length() != next - place) {
                return false;
            }
            for (int i = 0; i < word.length(); i++) {
                if (bytes[place + i] != word.charAt(i)) {
                    return false;
                }
            }
            return true;
        }

        private static boolean isLetter(byte sign) {
            return sign >= 'a' && sign <= 'z';
        }

        private static boolean isDigit(byte sign) {
            return sign >= '0' && sign <= '9';
        }
    }

    /** Reads the tape as a text of a sort; where there is no fault, what it tells stands here. */
    private static final class Reader {
        private static final int NO_TEXT = 1;
        private static final int BAD_NUMBER = 2;
        private static final int TOO_MANY = 3;
        private static final int NOT_THERE = 4;

        /** The first kind of line of each sort; the next sort's is behind its last one. */
        private static final int[] FIRST_KIND = {0, 6, 13, 15, 17};

        final Tokens tokens = new Tokens();
        final Street street = new Street();
        final Lines year = new Lines(DEEDS);
        final Lines log = new Lines(FACTS);
        final Swaps swaps = new Swaps();
        final int[] numbers = new int[4];
        int fault;
        int faultPlace;
        /** How many business, deeds or facts were told, those too many and the faulty ones too. */
        private int further;
        private int highestMinute;
        private int highestPerson;

        void read(Told told, int sort) {
            clear();
            tokens.start(told);
            boolean goes = true;
            for (int line = 0; line <= TAPE && goes; line++) {
                goes = readLine(sort);
            }
            if (fault == 0 && tellsOfMissing(sort)) {
                note(NOT_THERE, tokens.length);
            }
        }

        private void clear() {
            street.clear();
            year.many = 0;
            log.many = 0;
            swaps.clear();
            fault = 0;
            faultPlace = NONE;
            further = 0;
            highestMinute = NONE;
            highestPerson = NONE;
        }

        private boolean tellsOfMissing(int sort) {
            if (sort == STREET_SORT) {
                return highestMinute >= street.minutes || highestPerson >= street.people;
            }
            return sort == SWAPS_SORT && highestPerson >= swaps.hands;
        }

        /** Of bad numbers and what is too much the first one stays. */
        private void note(int newFault, int place) {
            if (fault == 0) {
                fault = newFault;
                faultPlace = place;
            }
        }

        private boolean stopReading() {
            fault = NO_TEXT;
            faultPlace = tokens.place;
            return false;
        }

        /** Reads one line; false behind the last one, and where no text goes on. */
        private boolean readLine(int sort) {
            tokens.advance();
            if (tokens.sort == Tokens.OVER) {
                return false;
            }
            int kind = kindOfLine(sort);
            if (kind < 0) {
                return stopReading();
            }
            countFurther(sort, kind);
            String shape = shapeOf(kind);
            for (int i = 0; i < shape.length(); i++) {
                tokens.advance();
                if (tokens.sort != Tokens.NUMBER) {
                    return stopReading();
                }
                takeNumber(shape.charAt(i), i);
            }
            tokens.advance();
            if (tokens.sort != Tokens.STOP) {
                return stopReading();
            }
            if (fault == 0) {
                tellLine(sort, kind);
            }
            return true;
        }

        private int kindOfLine(int sort) {
            for (int kind = FIRST_KIND[sort]; kind < FIRST_KIND[sort + 1]; kind++) {
                if (tokens.isWord(wordOf(kind))) {
                    return kind;
                }
            }
            return NONE;
        }

        private static String wordOf(int kind) {
            switch (kind) {
                case MINUTES_LINE:
                    return "minutes";
                case PEOPLE_LINE:
                    return "people";
                case COINS_LINE:
                    return "coins";
                case PRICE_LINE:
                    return "price";
                case HAS_LINE:
                    return "has";
                case BUSINESS_LINE:
                    return "business";
                case BUY:
                    return "buy";
                case THINK:
                    return "think";
                case STEAL:
                    return "steal";
                case SELL:
                    return "sell";
                case DO:
                    return "do";
                case DEARER:
                    return "dearer";
                case CHEAPER:
                    return "cheaper";
                case GONE:
                    return "gone";
                case THERE:
                    return "there";
                case HANDS_LINE:
                    return "hands";
                default:
                    return "worth";
            }
        }

        private void countFurther(int sort, int kind) {
            int most = mostFurther(sort, kind);
            if (most == 0) {
                return;
            }
            further++;
            if (further > most) {
                note(TOO_MANY, tokens.place);
            }
        }

        /** How many lines of the kind there may be; 0 where a later one strikes. */
        private static int mostFurther(int sort, int kind) {
            if (sort == YEAR_SORT) {
                return DEEDS;
            }
            if (sort == LOG_SORT) {
                return FACTS;
            }
            return kind == BUSINESS_LINE ? BUSINESS : 0;
        }

        private void takeNumber(char sign, int i) {
            int value = tokens.value;
            boolean falls = sign == 't' && i > 0 && value < numbers[i - 1];
            if (value < leastOf(sign) || value > mostOf(sign) || falls) {
                note(BAD_NUMBER, tokens.place);
            }
            numbers[i] = value;
        }

        /**
         * What numbers a line has, a sign for each: how many (M)inutes, (P)eople, (H)ands, a (L)ength, a (p)erson,
         * a (m)inute, the one up (t)o which from the one before, (b)usiness, a (h)and, (c)oins, a price (x).
         */
        private static String shapeOf(int kind) {
            switch (kind) {
                case MINUTES_LINE:
                    return "M";
                case PEOPLE_LINE:
                    return "P";
                case COINS_LINE:
                    return "pc";
                case PRICE_LINE:
                    return "mtx";
                case HAS_LINE:
                    return "pmt";
                case BUSINESS_LINE:
                    return "Lmtc";
                case BUY:
                case THINK:
                case STEAL:
                case SELL:
                    return "pm";
                case DO:
                    return "pbm";
                case HANDS_LINE:
                    return "H";
                case WORTH_LINE:
                    return "hhx";
                default:
                    return "m";
            }
        }

        private static int leastOf(char sign) {
            switch (sign) {
                case 'M':
                case 'P':
                case 'L':
                    return 1;
                case 'H':
                    return 2;
                default:
                    return 0;
            }
        }

        private static int mostOf(char sign) {
            switch (sign) {
                case 'M':
                    return MINUTES;
                case 'P':
                    return PEOPLE;
                case 'H':
                    return HANDS;
                case 'p':
                    return PEOPLE - 1;
                case 'm':
                case 't':
                    return MINUTES - 1;
                case 'b':
                    return BUSINESS - 1;
                case 'h':
                    return HANDS - 1;
                case 'L':
                case 'x':
                    return 9;
                default:
                    return 99;
            }
        }

        private void tellLine(int sort, int kind) {
            switch (sort) {
                case STREET_SORT:
                    tellStreet(kind);
                    break;
                case YEAR_SORT:
                    year.append(kind, numbers[0], numberOrNone(kind, 1), numberOrNone(kind, 2));
                    break;
                case LOG_SORT:
                    log.append(kind, numbers[0], NONE, NONE);
                    break;
                default:
                    tellSwaps(kind);
                    break;
            }
        }

        private int numberOrNone(int kind, int i) {
            return i < shapeOf(kind).length() ? numbers[i] : NONE;
        }

        private void tellStreet(int kind) {
            switch (kind) {
                case MINUTES_LINE:
                    street.minutes = numbers[0];
                    break;
                case PEOPLE_LINE:
                    street.people = numbers[0];
                    break;
                case COINS_LINE:
                    street.coins[numbers[0]] = numbers[1];
                    highestPerson = Math.max(highestPerson, numbers[0]);
                    break;
                case PRICE_LINE:
                    Arrays.fill(street.price, numbers[0], numbers[1] + 1, numbers[2]);
                    highestMinute = Math.max(highestMinute, numbers[1]);
                    break;
                case HAS_LINE:
                    Arrays.fill(street.owner, numbers[1], numbers[2] + 1, numbers[0]);
                    highestPerson = Math.max(highestPerson, numbers[0]);
                    highestMinute = Math.max(highestMinute, numbers[2]);
                    break;
                default:
                    tellBusiness();
                    break;
            }
        }

        private void tellBusiness() {
            int b = street.businesses;
            if (b >= BUSINESS) {
                return;
            }
            street.length[b] = numbers[0];
            street.from[b] = numbers[1];
            street.to[b] = numbers[2];
            street.worth[b] = numbers[3];
            street.businesses++;
            highestMinute = Math.max(highestMinute, numbers[2]);
        }

        private void tellSwaps(int kind) {
            if (kind == HANDS_LINE) {
                swaps.hands = numbers[0];
                return;
            }
            swaps.worth[numbers[0] * HANDS + numbers[1]] = numbers[2];
            highestPerson = Math.max(highestPerson, Math.max(numbers[0], numbers[1]));
        }
    }

    /** A year as it goes, deed by deed, in a street. */
    private static final class Play {
        /** The street as it is by now. */
        final Street street = new Street();
        final boolean[] used = new boolean[MINUTES];
        final int[] doneBy = new int[BUSINESS];
        final int[] stolenFrom = new int[PEOPLE];
        final int[] moves = new int[MINUTES];
        int thinker = NONE;
        private int seed;

        private void begin(Street asTold) {
            street.copyFrom(asTold);
            Arrays.fill(doneBy, NONE);
            Arrays.fill(stolenFrom, 0);
            Arrays.fill(moves, 0);
            for (int m = 0; m < MINUTES; m++) {
                used[m] = false;
            }
            thinker = NONE;
        }

        /** Goes through the first n deeds, up to the first one that can't be: how many were done. */
        int live(Street asTold, Lines deeds, int n) {
            begin(asTold);
            for (int k = 0; k < n && k < deeds.many; k++) {
                if (!goes(deeds.kind[k], deeds.number(k, 0), deeds.number(k, 1), deeds.number(k, 2))) {
                    return k;
                }
            }
            return n;
        }

        private boolean goes(int kind, int a, int b, int c) {
            switch (kind) {
                case BUY:
                    return buys(a, b);
                case SELL:
                    return sells(a, b);
                case THINK:
                    return thinks(a, b);
                case STEAL:
                    return steals(a, b);
                case DO:
                    return does(a, b, c);
                case DEARER:
                    return changesPrice(a, 1);
                case CHEAPER:
                    return changesPrice(a, -1);
                default:
                    return false;
            }
        }

        private boolean areThere(int person, int minute) {
            return street.hasPerson(person) && street.hasMinute(minute);
        }

        private boolean isFreeOf(int person, int minute) {
            return street.owner[minute] == person && !used[minute];
        }

        private void moveTo(int minute, int newOwner) {
            street.owner[minute] = newOwner;
            moves[minute]++;
        }

        private boolean buys(int person, int minute) {
            if (!areThere(person, minute) || used[minute]) {
                return false;
            }
            int price = street.price[minute];
            int before = street.owner[minute];
            if (before == person || street.coins[person] < price) {
                return false;
            }
            street.coins[person] -= price;
            if (before >= 0) {
                street.coins[before] += price;
            }
            moveTo(minute, person);
            return true;
        }

        private boolean sells(int person, int minute) {
            if (!areThere(person, minute) || !isFreeOf(person, minute)) {
                return false;
            }
            street.coins[person] += street.price[minute];
            moveTo(minute, NONE);
            return true;
        }

        private boolean thinks(int person, int minute) {
            if (!areThere(person, minute) || !isFreeOf(person, minute)) {
                return false;
            }
            used[minute] = true;
            if (thinker == NONE) {
                thinker = person;
            }
            return true;
        }

        private boolean steals(int person, int minute) {
            if (!areThere(person, minute) || used[minute]) {
                return false;
            }
            int before = street.owner[minute];
            if (before < 0 || before == person) {
                return false;
            }
            stolenFrom[before]++;
            moveTo(minute, person);
            return true;
        }

        private boolean does(int person, int business, int first) {
            if (!areThere(person, first) || !street.hasBusiness(business)) {
                return false;
            }
            if (doneBy[business] != NONE || !street.goesIn(business, first, freeMinutes(person))) {
                return false;
            }
            for (int m = first; m < first + street.length[business]; m++) {
                used[m] = true;
            }
            doneBy[business] = person;
            street.coins[person] += street.worth[business];
            return true;
        }

        private long freeMinutes(int person) {
            long mask = 0;
            for (int m = 0; m < street.minutes; m++) {
                if (isFreeOf(person, m)) {
                    mask |= 1L << m;
                }
            }
            return mask;
        }

        private boolean changesPrice(int minute, int by) {
            if (!street.hasMinute(minute)) {
                return false;
            }
            int price = street.price[minute] + by;
            if (price < 0 || price > TOP_PRICE) {
                return false;
            }
            street.price[minute] = price;
            return true;
        }

        void drawDeeds(Street asTold, int newSeed, int n) {
            begin(asTold);
            seed = newSeed;
            for (int i = 0; i < n; i++) {
                drawDeed();
            }
        }

        private void drawDeed() {
            int kind = kindDrawn(draw(8));
            if (kind == DO) {
                drawDo();
            } else if (kind == DEARER) {
                int by = draw(2) == 0 ? 1 : -1;
                changesPrice(draw(street.minutes), by);
            } else {
                int person = draw(street.people);
                goes(kind, person, draw(street.minutes), NONE);
            }
        }

        private void drawDo() {
            if (street.businesses == 0) {
                return;
            }
            int person = draw(street.people);
            int business = draw(street.businesses);
            does(person, business, draw(street.minutes));
        }

        private static int kindDrawn(int number) {
            switch (number) {
                case 3:
                    return SELL;
                case 4:
                    return STEAL;
                case 5:
                    return THINK;
                case 6:
                    return DO;
                case 7:
                    return DEARER;
                default:
                    return BUY;
            }
        }

        private int draw(int below) {
            seed = seed * 1103515245 + 12345;
            return below > 0 ? (seed >>> 16) % below : 0;
        }

        int answer(int what) {
            switch (what) {
                case 0:
                    return usedMinutes();
                case 1:
                    return doneBusiness();
                case 2:
                    return allCoins();
                default:
                    return partOfState(what);
            }
        }

        private int partOfState(int what) {
            if (isAmong(what, 10, street.people)) {
                return street.coins[what - 10];
            }
            if (isAmong(what, 20, street.people)) {
                return Long.bitCount(street.held(what - 20));
            }
            if (isAmong(what, 30, street.businesses)) {
                return doneBy[what - 30];
            }
            if (isAmong(what, 100, street.minutes)) {
                return street.price[what - 100];
            }
            if (isAmong(what, 200, street.minutes)) {
                return street.owner[what - 200];
            }
            if (isAmong(what, 300, street.minutes)) {
                return used[what - 300] ? 1 : 0;
            }
            return MISSING;
        }

        private int usedMinutes() {
            int many = 0;
            for (int m = 0; m < street.minutes; m++) {
                if (used[m]) {
                    many++;
                }
            }
            return many;
        }

        private int doneBusiness() {
            int many = 0;
            for (int b = 0; b < street.businesses; b++) {
                if (doneBy[b] != NONE) {
                    many++;
                }
            }
            return many;
        }

        private int allCoins() {
            int sum = 0;
            for (int p = 0; p < street.people; p++) {
                sum += street.coins[p];
            }
            return sum;
        }

        int richest() {
            int best = 0;
            for (int p = 1; p < street.people; p++) {
                if (street.coins[p] > street.coins[best]) {
                    best = p;
                }
            }
            return best;
        }

        int victim() {
            int best = NONE;
            int most = 0;
            for (int p = 0; p < street.people; p++) {
                if (stolenFrom[p] > most) {
                    most = stolenFrom[p];
                    best = p;
                }
            }
            return best;
        }

        int restless() {
            int best = NONE;
            int most = 0;
            for (int m = 0; m < street.minutes; m++) {
                if (moves[m] > most) {
                    most = moves[m];
                    best = m;
                }
            }
            return best;
        }

        int timesMoved(int minute) {
            return street.hasMinute(minute) ? moves[minute] : 0;
        }
    }

    /** Which runs of minutes a person takes for some business, and what they cost. */
    private static final class Chores {
        private static final long FAR = 1L << 60;
        /** Below the cost in a weight: six first minutes, six bits each, business 0's the highest. */
        private static final int ROW_BITS = 36;
        private static final int MINUTE_BITS = 6;

        /** Of a business and a first minute: the run's cost and, lower, its place in the row of first minutes. */
        private final long[] weights = new long[BUSINESS * MINUTES];
        /** Of the minutes before one, and a set: the least sum of weights with which all of the set is done there. */
        private final long[] least = new long[(MINUTES + 1) * SUBSETS];
        /** As least, with one minute given: cost and, lower, that minute. */
        private final long[] given = new long[(MINUTES + 1) * SUBSETS];
        int chosenSet;
        int chosenGain;
        int giftMinute;
        int giftCost;

        /** Weighs all runs that go in minutes of the mask. */
        void weighRuns(Street street, int person, long mask) {
            for (int b = 0; b < street.businesses; b++) {
                for (int m = 0; m < street.minutes; m++) {
                    long weight = FAR;
                    if (street.goesIn(b, m, mask)) {
                        long cost = street.costOfRun(person, b, m);
                        weight = (cost << ROW_BITS) + ((long) m << rowShift(b));
                    }
                    weights[b * MINUTES + m] = weight;
                }
            }
        }

        private static int rowShift(int business) {
            return (BUSINESS - 1 - business) * MINUTE_BITS;
        }

        private static int costIn(long weight) {
            return weight < FAR ? (int) (weight >> ROW_BITS) : NONE;
        }

        private static int firstIn(long weight, int business) {
            return weight < FAR ? (int) (weight >> rowShift(business)) & 63 : NONE;
        }

        private long bestWeight(Street street, int business) {
            long best = FAR;
            for (int m = 0; m < street.minutes; m++) {
                best = Math.min(best, weights[business * MINUTES + m]);
            }
            return best;
        }

        int bestCost(Street street, int business) {
            return costIn(bestWeight(street, business));
        }

        int bestFirst(Street street, int business) {
            return firstIn(bestWeight(street, business), business);
        }

        /** The business before which as many others come as k tells, by the costs of their runs. */
        int atRank(Street street, int k) {
            for (int b = 0; b < street.businesses; b++) {
                if (bestCost(street, b) != NONE && rankOf(street, b) == k) {
                    return b;
                }
            }
            return NONE;
        }

        private int rankOf(Street street, int business) {
            int own = bestCost(street, business);
            int before = 0;
            for (int b = 0; b < street.businesses; b++) {
                int cost = bestCost(street, b);
                if (cost != NONE && (cost < own || cost == own && b < business)) {
                    before++;
                }
            }
            return before;
        }

        /** Fills the table of least sums for all that is in the set. */
        void arrange(Street street, int set) {
            Arrays.fill(least, FAR);
            least[0] = 0;
            for (int m = 0; m < street.minutes; m++) {
                for (int done = 0; done < street.subsets(); done++) {
                    long sum = least[m * SUBSETS + done];
                    if (sum < FAR) {
                        goOn(street, m, done, set, sum);
                    }
                }
            }
        }

        private void goOn(Street street, int m, int done, int set, long sum) {
            lower(least, (m + 1) * SUBSETS + done, sum);
            for (int b = 0; b < street.businesses; b++) {
                long weight = weights[b * MINUTES + m];
                if (((set & ~done) >> b & 1) == 1 && weight < FAR) {
                    lower(least, behind(street, m, done, b), sum + weight);
                }
            }
        }

        /** Where the table has what holds when the run of a business from a minute on is added. */
        private static int behind(Street street, int m, int done, int b) {
            return (m + street.length[b]) * SUBSETS + (done | 1 << b);
        }

        private static void lower(long[] table, int index, long value) {
            if (index >= 0 && index < table.length && value < table[index]) {
                table[index] = value;
            }
        }

        int costOfSet(Street street, int set) {
            return costIn(least[street.minutes * SUBSETS + set]);
        }

        int firstMinuteIn(Street street, int set, int business) {
            if (!street.hasBusiness(business) || (set >> business & 1) == 0) {
                return NONE;
            }
            return firstIn(least[street.minutes * SUBSETS + set], business);
        }

        /** The last minute used where the set is done as early as can be. */
        int lastUsed(Street street, int set) {
            if (set == 0) {
                return 0;
            }
            for (int m = 1; m <= street.minutes; m++) {
                if (least[m * SUBSETS + set] < FAR) {
                    return m - 1;
                }
            }
            return NONE;
        }

        /** Chooses the set that brings most by minutes of the mask with the person's coins. */
        void choose(Street street, int person, long mask) {
            weighRuns(street, person, mask);
            arrange(street, street.subsets() - 1);
            chosenSet = 0;
            chosenGain = 0;
            for (int set = 1; set < street.subsets(); set++) {
                int cost = costOfSet(street, set);
                if (cost != NONE && cost <= street.coins[person]) {
                    weighChoice(set, street.worthOfSet(set) - cost);
                }
            }
        }

        private void weighChoice(int set, int gain) {
            boolean fewer = Integer.bitCount(set) < Integer.bitCount(chosenSet);
            if (gain > chosenGain || gain == chosenGain && fewer) {
                chosenSet = set;
                chosenGain = gain;
            }
        }

        /** Finds the minute whose being given makes the set cheapest; stands on the table of least sums. */
        void give(Street street, int person, int set) {
            giftMinute = firstNotHis(street, person);
            giftCost = giftMinute == NONE ? NONE : costOfSet(street, set);
            if (giftCost == NONE) {
                giftMinute = NONE;
                return;
            }
            arrangeGiven(street, person, set);
            long best = given[street.minutes * SUBSETS + set];
            if (best < (long) giftCost << MINUTE_BITS) {
                giftMinute = (int) best & 63;
                giftCost = (int) (best >> MINUTE_BITS);
            }
        }

        private static int firstNotHis(Street street, int person) {
            for (int m = 0; m < street.minutes; m++) {
                if (street.owner[m] != person) {
                    return m;
                }
            }
            return NONE;
        }

        private void arrangeGiven(Street street, int person, int set) {
            Arrays.fill(given, FAR);
            for (int m = 0; m < street.minutes; m++) {
                for (int done = 0; done < street.subsets(); done++) {
                    lower(given, (m + 1) * SUBSETS + done, given[m * SUBSETS + done]);
                    for (int b = 0; b < street.businesses; b++) {
                        if (((set & ~done) >> b & 1) == 1 && weights[b * MINUTES + m] < FAR) {
                            giveIn(street, person, m, done, b);
                        }
                    }
                }
            }
        }

        /** Adds the run of a business from a minute on: the gift was before it, or is in it. */
        private void giveIn(Street street, int person, int m, int done, int b) {
            long cost = weights[b * MINUTES + m] >> ROW_BITS;
            long before = given[m * SUBSETS + done];
            if (before < FAR) {
                lower(given, behind(street, m, done, b), before + (cost << MINUTE_BITS));
            }
            long without = least[m * SUBSETS + done];
            int minute = dearestNotHis(street, person, b, m);
            if (without < FAR && minute != NONE) {
                long rest = (without >> ROW_BITS) + cost - street.price[minute];
                lower(given, behind(street, m, done, b), (rest << MINUTE_BITS) + minute);
            }
        }

        private static int dearestNotHis(Street street, int person, int b, int first) {
            int best = NONE;
            int most = NONE;
            for (int m = first; m < first + street.length[b] && m < street.minutes; m++) {
                if (street.owner[m] != person && street.price[m] > most) {
                    most = street.price[m];
                    best = m;
                }
            }
            return best;
        }
    }

    /** The fewest minutes, 3 at most, so that each run that goes in minutes of a mask has one of them. */
    private static final class Cover {
        private static final int MOST = 3;

        /** Of each minute: the length of the shortest run that ends with it, 0 without. */
        private final int[] shortest = new int[MINUTES];
        private final int[] row = new int[MOST];
        private int size;

        void solve(Street street, long mask) {
            findRuns(street, mask);
            size = NONE;
            for (int tried = 0; tried <= MOST && size == NONE; tried++) {
                if (pick(this, 0, tried, NONE)) {
                    size = tried;
                }
            }
        }

        int answer(int k) {
            if (size == NONE || k == NONE) {
                return size;
            }
            return k >= 0 && k < size ? row[k] : NONE;
        }

        /** A run that ends with the same minute as a shorter one has whatever the shorter one has. */
        private void findRuns(Street street, long mask) {
            Arrays.fill(shortest, 0);
            for (int b = 0; b < street.businesses; b++) {
                for (int m = 0; m < street.minutes; m++) {
                    if (street.goesIn(b, m, mask)) {
                        noteRun(m + street.length[b] - 1, street.length[b]);
                    }
                }
            }
        }

        private void noteRun(int last, int length) {
            if (last < MINUTES && (shortest[last] == 0 || length < shortest[last])) {
                shortest[last] = length;
            }
        }

        /** Picks the rest, from depth on, of a rising row of as many as are tried; the first row found is the least. */
        private static boolean pick(Cover cover, int depth, int tried, int latest) {
            int last = cover.firstUncovered(latest);
            if (last == NONE) {
                return depth == tried;
            }
            if (depth >= tried || depth >= MOST) {
                return false;
            }
            // Of the fewest the next one is always in the run that ends first:
            // one before it could be left out, one behind it leaves it uncovered.
            for (int m = last - cover.shortest[last] + 1; m <= last; m++) {
                cover.row[depth] = m;
                if (pick(cover, depth + 1, tried, m)) {
                    return true;
                }
            }
            return false;
        }

        /** The end of the first run that begins behind the latest one picked. */
        private int firstUncovered(int latest) {
            for (int m = latest + 1; m < MINUTES; m++) {
                if (shortest[m] > 0 && m - shortest[m] + 1 > latest) {
                    return m;
                }
            }
            return NONE;
        }
    }

    /** The rows of minutes that may have been stolen by a log. */
    private static final class Thefts {
        private long gone;
        private long there;
        private final int[] stolenIn = new int[MINUTES];
        int many;
        int sureFirst;
        int sureLast;
        int shortest;
        int longest;

        void look(Lines facts) {
            takeFacts(facts);
            many = 0;
            sureFirst = NONE;
            sureLast = NONE;
            shortest = MINUTES;
            longest = 0;
            Arrays.fill(stolenIn, 0);
            for (int first = 0; first < MINUTES; first++) {
                for (int last = first; last < MINUTES; last++) {
                    if (agrees(first, last)) {
                        takeRow(first, last);
                    }
                }
            }
        }

        private void takeFacts(Lines facts) {
            gone = 0;
            there = 0;
            for (int k = 0; k < facts.many; k++) {
                long bit = 1L << facts.number(k, 0);
                if (facts.kind[k] == GONE) {
                    gone |= bit;
                } else {
                    there |= bit;
                }
            }
        }

        private boolean agrees(int first, int last) {
            long row = ((1L << (last - first + 1)) - 1) << first;
            return (gone & ~row) == 0 && (there & row) == 0;
        }

        private void takeRow(int first, int last) {
            sureFirst = many == 0 || sureFirst == first ? first : NONE;
            sureLast = many == 0 || sureLast == last ? last : NONE;
            shortest = Math.min(shortest, last - first + 1);
            longest = Math.max(longest, last - first + 1);
            for (int m = first; m <= last; m++) {
                stolenIn[m]++;
            }
            many++;
        }

        int seek() {
            int best = NONE;
            int least = many;
            for (int m = 0; m < MINUTES && many > 0; m++) {
                int greater = Math.max(stolenIn[m], many - stolenIn[m]);
                if (best == NONE || greater < least) {
                    best = m;
                    least = greater;
                }
            }
            return best;
        }

        int codeAt(int k) {
            int before = 0;
            for (int first = 0; first < MINUTES; first++) {
                for (int last = first; last < MINUTES; last++) {
                    if (agrees(first, last)) {
                        if (before == k) {
                            return first * MINUTES + last;
                        }
                        before++;
                    }
                }
            }
            return MISSING;
        }

        /** How many minutes are stolen in as many of the rows that fit. */
        int minutesIn(int rows) {
            int sum = 0;
            for (int m = 0; m < MINUTES; m++) {
                if (stolenIn[m] == rows) {
                    sum++;
                }
            }
            return sum;
        }
    }

    /** What each hand has when all have swapped in rings. */
    private static final class Trade {
        final int[] gets = new int[HANDS];
        final int[] round = new int[HANDS];
        private final int[] points = new int[HANDS];
        int rounds;

        void settle(Swaps swaps) {
            Arrays.fill(round, NONE);
            rounds = 0;
            int gone = 0;
            for (int turn = 0; turn < HANDS && gone < swaps.hands; turn++) {
                pointAll(swaps);
                gone += letGo(swaps, turn);
                rounds++;
            }
        }

        private void pointAll(Swaps swaps) {
            for (int h = 0; h < swaps.hands; h++) {
                if (round[h] == NONE) {
                    points[h] = favourite(swaps, h);
                }
            }
        }

        private int favourite(Swaps swaps, int hand) {
            int best = hand;
            int most = NONE;
            for (int h = 0; h < swaps.hands; h++) {
                if (round[h] == NONE && swaps.worthTo(hand, h) > most) {
                    most = swaps.worthTo(hand, h);
                    best = h;
                }
            }
            return best;
        }

        private int letGo(Swaps swaps, int turn) {
            int many = 0;
            for (int h = 0; h < swaps.hands; h++) {
                if (round[h] == NONE && isInRing(h)) {
                    round[h] = turn;
                    gets[h] = points[h];
                    many++;
                }
            }
            return many;
        }

        private boolean isInRing(int hand) {
            int at = points[hand];
            for (int step = 0; step < HANDS && at != hand; step++) {
                at = points[at];
            }
            return at == hand;
        }

        int gain(Swaps swaps) {
            int sum = 0;
            for (int h = 0; h < swaps.hands; h++) {
                sum += swaps.worthTo(h, gets[h]) - swaps.worthTo(h, h);
            }
            return sum;
        }

        int contented(Swaps swaps) {
            int bits = 0;
            for (int h = 0; h < swaps.hands; h++) {
                if (hasBest(swaps, h)) {
                    bits |= 1 << h;
                }
            }
            return bits;
        }

        private boolean hasBest(Swaps swaps, int hand) {
            for (int h = 0; h < swaps.hands; h++) {
                if (swaps.worthTo(hand, h) > swaps.worthTo(hand, gets[hand])) {
                    return false;
                }
            }
            return true;
        }

        int envy(Swaps swaps) {
            int couples = 0;
            for (int a = 0; a < swaps.hands; a++) {
                for (int b = 0; b < swaps.hands; b++) {
                    if (swaps.worthTo(a, gets[b]) > swaps.worthTo(a, gets[a])) {
                        couples++;
                    }
                }
            }
            return couples;
        }
    }
}
