import java.util.ArrayList;
import java.util.HashMap;
import java.util.List;
import java.util.Map;
import java.util.TreeMap;

/**
 * The document once more, by plain trying of all that there is, for small streets.
 * It shares nothing with the class but the document.
 */
final class Model {
    static final int NONE = -1;
    private static final String[][] WORDS = {
        {"minutes", "people", "coins", "price", "has", "business"},
        {"buy", "think", "steal", "sell", "do", "dearer", "cheaper"},
        {"there", "gone"},
        {"hands", "worth"}};
    private static final Map<String, int[][]> RANGES = new HashMap<>();

    static {
        int[] minute = {0, 39};
        int[] person = {0, 3};
        int[] hand = {0, 5};
        RANGES.put("minutes", new int[][] {{1, 40}});
        RANGES.put("people", new int[][] {{1, 4}});
        RANGES.put("coins", new int[][] {person, {0, 99}});
        RANGES.put("price", new int[][] {minute, minute, {0, 9}});
        RANGES.put("has", new int[][] {person, minute, minute});
        RANGES.put("business", new int[][] {{1, 9}, minute, minute, {0, 99}});
        for (String word : new String[] {"buy", "think", "steal", "sell"}) {
            RANGES.put(word, new int[][] {person, minute});
        }
        RANGES.put("do", new int[][] {person, {0, 5}, minute});
        for (String word : new String[] {"dearer", "cheaper", "gone", "there"}) {
            RANGES.put(word, new int[][] {minute});
        }
        RANGES.put("hands", new int[][] {{2, 6}});
        RANGES.put("worth", new int[][] {hand, hand, {0, 9}});
    }

    record Line(String word, int[] numbers) {
    }

    record Token(String text, int place) {
    }

    /** A text that was read: its lines, or its fault and where. */
    static final class Read {
        final List<Line> lines = new ArrayList<>();
        int fault = 0;
        int place = NONE;
    }

    static Read read(String tape, int sort) {
        Read read = new Read();
        List<Token> tokens = tokens(tape);
        TreeMap<Integer, Integer> later = new TreeMap<>();
        int further = 0;
        int at = 0;
        while (at < tokens.size()) {
            Token first = tokens.get(at);
            int[][] ranges = List.of(WORDS[sort]).contains(first.text) ? RANGES.get(first.text) : null;
            if (ranges == null) {
                return faulty(read, 1, first.place);
            }
            if (sort == 1 || sort == 2 || first.text.equals("business")) {
                further++;
                if (further > (sort == 1 ? 40 : sort == 2 ? 8 : 6)) {
                    later.merge(first.place, 3, Math::min);
                }
            }
            int[] numbers = new int[ranges.length];
            for (int i = 0; i <= ranges.length; i++) {
                at++;
                Token token = at < tokens.size() ? tokens.get(at) : new Token("", tape.length());
                boolean fits = i < ranges.length ? token.text.matches("[0-9]{1,2}") : token.text.equals(";");
                if (!fits) {
                    return faulty(read, 1, token.place);
                }
                if (i == ranges.length) {
                    break;
                }
                numbers[i] = Integer.parseInt(token.text);
                boolean bad = numbers[i] < ranges[i][0] || numbers[i] > ranges[i][1];
                bad |= first.text.equals("price") && i == 1 && numbers[1] < numbers[0];
                bad |= first.text.equals("has") && i == 2 && numbers[2] < numbers[1];
                bad |= first.text.equals("business") && i == 2 && numbers[2] < numbers[1];
                if (bad) {
                    later.merge(token.place, 2, Math::min);
                }
            }
            read.lines.add(new Line(first.text, numbers));
            at++;
        }
        if (!later.isEmpty()) {
            return faulty(read, later.firstEntry().getValue(), later.firstEntry().getKey());
        }
        return tellsOfMissing(read, sort) ? faulty(read, 4, tape.length()) : read;
    }

    private static Read faulty(Read read, int fault, int place) {
        read.fault = fault;
        read.place = place;
        return read;
    }

    private static List<Token> tokens(String tape) {
        List<Token> tokens = new ArrayList<>();
        int at = 0;
        while (at < tape.length()) {
            char sign = tape.charAt(at);
            int end = at + 1;
            if (sign == 10 || sign == 32) {
                at++;
                continue;
            }
            String set = sign >= 'a' && sign <= 'z' ? "[a-z]" : sign >= '0' && sign <= '9' ? "[0-9]" : null;
            while (set != null && end < tape.length() && tape.substring(end, end + 1).matches(set)) {
                end++;
            }
            tokens.add(new Token(tape.substring(at, end), at));
            at = end;
        }
        return tokens;
    }

    private static boolean tellsOfMissing(Read read, int sort) {
        if (sort == 0) {
            Town town = new Town(read);
            for (Line line : read.lines) {
                int[] n = line.numbers;
                boolean missing = switch (line.word) {
                    case "coins" -> n[0] >= town.people;
                    case "price" -> n[0] >= town.minutes || n[1] >= town.minutes;
                    case "has" -> n[0] >= town.people || n[1] >= town.minutes || n[2] >= town.minutes;
                    case "business" -> n[1] >= town.minutes || n[2] >= town.minutes;
                    default -> false;
                };
                if (missing) {
                    return true;
                }
            }
        }
        if (sort == 3) {
            Ring ring = new Ring(read);
            for (Line line : read.lines) {
                if (line.word.equals("worth") && (line.numbers[0] >= ring.hands || line.numbers[1] >= ring.hands)) {
                    return true;
                }
            }
        }
        return false;
    }

    /** A street as told, or as it is behind some deeds. */
    static final class Town {
        int minutes = 12;
        int people = 2;
        int[] coins = {20, 20, 20, 20};
        int[] price = new int[40];
        int[] owner = new int[40];
        boolean[] used = new boolean[40];
        List<int[]> business = new ArrayList<>();
        int[] doneBy = {NONE, NONE, NONE, NONE, NONE, NONE};
        List<Integer> thinkers = new ArrayList<>();
        List<Integer> victims = new ArrayList<>();
        List<Integer> moved = new ArrayList<>();

        Town(Read read) {
            java.util.Arrays.fill(price, 1);
            java.util.Arrays.fill(owner, NONE);
            for (Line line : read.lines) {
                int[] n = line.numbers;
                switch (line.word) {
                    case "minutes" -> minutes = n[0];
                    case "people" -> people = n[0];
                    case "coins" -> coins[n[0]] = n[1];
                    case "price" -> {
                        for (int m = n[0]; m <= n[1]; m++) {
                            price[m] = n[2];
                        }
                    }
                    case "has" -> {
                        for (int m = n[1]; m <= n[2]; m++) {
                            owner[m] = n[0];
                        }
                    }
                    default -> business.add(n);
                }
            }
        }

        boolean runGoes(int b, int first) {
            int[] n = business.get(b);
            return first >= n[1] && first + n[0] - 1 <= n[2];
        }

        /** Whether the deed can be; if so it is done. */
        boolean goes(String word, int[] n) {
            if (word.equals("dearer") || word.equals("cheaper")) {
                int by = word.equals("dearer") ? 1 : -1;
                if (n[0] >= minutes || price[n[0]] + by < 0 || price[n[0]] + by > 9) {
                    return false;
                }
                price[n[0]] += by;
                return true;
            }
            int p = n[0];
            if (p >= people) {
                return false;
            }
            if (word.equals("do")) {
                if (n[1] >= business.size() || doneBy[n[1]] != NONE || n[2] >= minutes || !runGoes(n[1], n[2])) {
                    return false;
                }
                int length = business.get(n[1])[0];
                for (int m = n[2]; m < n[2] + length; m++) {
                    if (owner[m] != p || used[m]) {
                        return false;
                    }
                }
                for (int m = n[2]; m < n[2] + length; m++) {
                    used[m] = true;
                }
                doneBy[n[1]] = p;
                coins[p] += business.get(n[1])[3];
                return true;
            }
            int m = n[1];
            if (m >= minutes || used[m]) {
                return false;
            }
            switch (word) {
                case "buy" -> {
                    if (owner[m] == p || coins[p] < price[m]) {
                        return false;
                    }
                    coins[p] -= price[m];
                    if (owner[m] != NONE) {
                        coins[owner[m]] += price[m];
                    }
                    owner[m] = p;
                    moved.add(m);
                }
                case "sell" -> {
                    if (owner[m] != p) {
                        return false;
                    }
                    coins[p] += price[m];
                    owner[m] = NONE;
                    moved.add(m);
                }
                case "think" -> {
                    if (owner[m] != p) {
                        return false;
                    }
                    used[m] = true;
                    thinkers.add(p);
                }
                default -> {
                    if (owner[m] == p || owner[m] == NONE) {
                        return false;
                    }
                    victims.add(owner[m]);
                    owner[m] = p;
                    moved.add(m);
                }
            }
            return true;
        }

        int live(Read year, int n) {
            for (int k = 0; k < n; k++) {
                if (!goes(year.lines.get(k).word, year.lines.get(k).numbers)) {
                    return k;
                }
            }
            return n;
        }

        void draw(int seed, int n) {
            long[] x = {seed};
            for (int i = 0; i < n; i++) {
                int kind = draw(x, 8);
                if (kind == 6) {
                    if (!business.isEmpty()) {
                        int p = draw(x, people);
                        int b = draw(x, business.size());
                        goes("do", new int[] {p, b, draw(x, minutes)});
                    }
                } else if (kind == 7) {
                    String word = draw(x, 2) == 0 ? "dearer" : "cheaper";
                    goes(word, new int[] {draw(x, minutes)});
                } else {
                    String word = List.of("buy", "buy", "buy", "sell", "steal", "think").get(kind);
                    int p = draw(x, people);
                    goes(word, new int[] {p, draw(x, minutes)});
                }
            }
        }

        private static int draw(long[] x, int below) {
            x[0] = (x[0] * 1103515245L + 12345L) & 0xffffffffL;
            return (int) ((x[0] >> 16) % below);
        }

        int state(int what) {
            if (what == 0) {
                return (int) java.util.stream.IntStream.range(0, minutes).filter(m -> used[m]).count();
            }
            if (what == 1) {
                return (int) java.util.Arrays.stream(doneBy).filter(p -> p != NONE).count();
            }
            if (what == 2) {
                return java.util.Arrays.stream(coins, 0, people).sum();
            }
            if (what >= 10 && what < 10 + people) {
                return coins[what - 10];
            }
            if (what >= 20 && what < 20 + people) {
                return (int) java.util.stream.IntStream.range(0, minutes).filter(m -> owner[m] == what - 20).count();
            }
            if (what >= 30 && what < 30 + business.size()) {
                return doneBy[what - 30];
            }
            if (what >= 100 && what < 100 + minutes) {
                return price[what - 100];
            }
            if (what >= 200 && what < 200 + minutes) {
                return owner[what - 200];
            }
            if (what >= 300 && what < 300 + minutes) {
                return used[what - 300] ? 1 : 0;
            }
            return -2;
        }

        int told(int what) {
            if (what == 0) {
                return minutes;
            }
            if (what == 1) {
                return people;
            }
            if (what == 2) {
                return business.size();
            }
            if (what >= 20 && what < 60) {
                return what % 10 < business.size() ? business.get(what % 10)[what / 10 - 2] : -2;
            }
            return what >= 10 && what < 20 || what >= 100 && what < 300 ? state(what) : -2;
        }

        /** Most of how often a number stands in the list: the least such number, how often; or NONE, 0. */
        private static int[] mostOften(List<Integer> list) {
            int[] best = {NONE, 0};
            for (int i = 0; i < 40; i++) {
                int often = java.util.Collections.frequency(list, i);
                if (often > best[1]) {
                    best = new int[] {i, often};
                }
            }
            return best;
        }

        int after(int what) {
            switch (what) {
                case 0:
                    return thinkers.isEmpty() ? NONE : thinkers.get(0);
                case 1:
                    int best = 0;
                    for (int p = people - 1; p >= 0; p--) {
                        best = coins[p] >= coins[best] ? p : best;
                    }
                    return best;
                case 2:
                    return mostOften(victims)[0];
                case 3:
                    return mostOften(moved)[0];
                case 4:
                    return mostOften(moved)[1];
                default:
                    return -2;
            }
        }

        int costOf(int person, java.util.Set<Integer> some) {
            int sum = 0;
            for (int m : some) {
                sum += owner[m] == person ? 0 : price[m];
            }
            return sum;
        }

        java.util.Set<Integer> window(int b, int first) {
            java.util.Set<Integer> set = new java.util.TreeSet<>();
            for (int i = 0; i < business.get(b)[0]; i++) {
                set.add(first + i);
            }
            return set;
        }

        /** RUN: the minute and the cost; null if it is too long. */
        int[] best(int person, int b) {
            int[] found = null;
            for (int m = 0; m < minutes; m++) {
                if (runGoes(b, m)) {
                    int cost = costOf(person, window(b, m));
                    if (found == null || cost < found[1]) {
                        found = new int[] {m, cost};
                    }
                }
            }
            return found;
        }

        /** ERRANDS: six first minutes (NONE: not among them), then the cost; null if it can't be done. */
        int[] errands(int person, int set, int blocked) {
            int[][] found = {null};
            int[] row = {NONE, NONE, NONE, NONE, NONE, NONE, 0};
            place(person, set, blocked, 0, new java.util.TreeSet<>(), row, found);
            return found[0];
        }

        private void place(int person, int set, int blocked, int b, java.util.Set<Integer> taken, int[] row, int[][] found) {
            if (b == 6) {
                int cost = costOf(person, taken);
                if (found[0] == null || cost < found[0][6]) {
                    found[0] = row.clone();
                    found[0][6] = cost;
                }
                return;
            }
            if ((set >> b & 1) == 0) {
                place(person, set, blocked, b + 1, taken, row, found);
                return;
            }
            for (int m = 0; m < minutes; m++) {
                if (!runGoes(b, m)) {
                    continue;
                }
                java.util.Set<Integer> more = window(b, m);
                if (more.contains(blocked) || !java.util.Collections.disjoint(more, taken)) {
                    continue;
                }
                more.addAll(taken);
                row[b] = m;
                place(person, set, blocked, b + 1, more, row, found);
                row[b] = NONE;
            }
        }

        /** PLAN: bits, how much. */
        int[] plan(int person, int blocked) {
            int[] best = {0, 0};
            for (int set = 0; set < 1 << business.size(); set++) {
                int[] errands = errands(person, set, blocked);
                if (errands == null || errands[6] > coins[person]) {
                    continue;
                }
                int much = -errands[6];
                for (int b = 0; b < business.size(); b++) {
                    much += (set >> b & 1) == 1 ? business.get(b)[3] : 0;
                }
                int fewer = Integer.compare(Integer.bitCount(set), Integer.bitCount(best[0]));
                if (much > best[1] || much == best[1] && (fewer < 0 || fewer == 0 && set < best[0])) {
                    best = new int[] {set, much};
                }
            }
            return best;
        }

        /** GIFT: the minute, the cost; null if there is none. */
        int[] gift(int person, int set) {
            int[] best = null;
            for (int m = 0; m < minutes; m++) {
                if (owner[m] == person) {
                    continue;
                }
                int before = owner[m];
                owner[m] = person;
                int[] errands = errands(person, set, NONE);
                owner[m] = before;
                if (errands != null && (best == null || errands[6] < best[1])) {
                    best = new int[] {m, errands[6]};
                }
            }
            return best;
        }

        int early(int person, int set) {
            for (int last = 0; last < minutes; last++) {
                if (fitsEarly(person, set, last, new java.util.TreeSet<>())) {
                    return last;
                }
            }
            return NONE;
        }

        private boolean fitsEarly(int person, int set, int last, java.util.Set<Integer> taken) {
            if (set == 0) {
                return true;
            }
            int b = Integer.numberOfTrailingZeros(set);
            for (int m = 0; m <= last; m++) {
                if (!runGoes(b, m) || m + business.get(b)[0] - 1 > last) {
                    continue;
                }
                java.util.Set<Integer> more = window(b, m);
                boolean good = java.util.Collections.disjoint(more, taken);
                for (int i : more) {
                    good &= owner[i] == person;
                }
                more.addAll(taken);
                if (good && fitsEarly(person, set & ~(1 << b), last, more)) {
                    return true;
                }
            }
            return false;
        }

        /** Whether some business could be done by minutes that are all marked. */
        int possible(boolean[] marked) {
            int bits = 0;
            for (int b = 0; b < business.size(); b++) {
                for (int m = 0; m < minutes; m++) {
                    if (runGoes(b, m) && window(b, m).stream().allMatch(i -> marked[i])) {
                        bits |= 1 << b;
                    }
                }
            }
            return bits;
        }

        boolean[] marks(int a, int b) {
            boolean[] marked = new boolean[40];
            for (int m = 0; m < minutes; m++) {
                marked[m] = owner[m] == a || owner[m] == b;
            }
            return marked;
        }

        /** CORNER, ROBBED: the first row of fewest minutes to take out of the marked ones; null if not by 3. */
        List<Integer> fewest(boolean[] marked) {
            for (int size = 0; size <= 3; size++) {
                List<Integer> row = fewest(marked, 0, size);
                if (row != null) {
                    return row;
                }
            }
            return null;
        }

        private List<Integer> fewest(boolean[] marked, int from, int size) {
            if (size == 0) {
                return possible(marked) == 0 ? new ArrayList<>() : null;
            }
            for (int m = from; m < minutes; m++) {
                if (marked[m]) {
                    marked[m] = false;
                    List<Integer> rest = fewest(marked, m + 1, size - 1);
                    marked[m] = true;
                    if (rest != null) {
                        rest.add(0, m);
                        return rest;
                    }
                }
            }
            return null;
        }

        /** HALVES from a minute on: by how much the one whose turn it is has more, how many he takes. */
        int[] halves(int from, int[][] known) {
            if (from == minutes) {
                return new int[] {0, 0};
            }
            if (known[from] != null) {
                return known[from];
            }
            int[] best = null;
            int sum = 0;
            for (int t = 1; t <= 3 && from + t <= minutes; t++) {
                sum += price[from + t - 1];
                int margin = sum - halves(from + t, known)[0];
                if (best == null || margin > best[0]) {
                    best = new int[] {margin, t};
                }
            }
            known[from] = best;
            return best;
        }

        /** FREE: how many, the first. */
        int[] longest(int person) {
            for (int size = minutes; size > 0; size--) {
                for (int first = 0; first + size <= minutes; first++) {
                    boolean all = true;
                    for (int m = first; m < first + size; m++) {
                        all &= owner[m] == person;
                    }
                    if (all) {
                        return new int[] {size, first};
                    }
                }
            }
            return new int[] {0, NONE};
        }

        /** WANTED: the minute, in how many. */
        int[] wanted() {
            List<Integer> all = new ArrayList<>();
            for (int b = 0; b < business.size(); b++) {
                for (int m = 0; m < minutes; m++) {
                    if (runGoes(b, m)) {
                        all.addAll(window(b, m));
                    }
                }
            }
            return mostOften(all);
        }

        List<Integer> ranked(int person) {
            List<Integer> all = new ArrayList<>();
            for (int b = 0; b < business.size(); b++) {
                if (best(person, b) != null) {
                    all.add(b);
                }
            }
            all.sort((a, b) -> best(person, a)[1] != best(person, b)[1]
                ? best(person, a)[1] - best(person, b)[1] : a - b);
            return all;
        }
    }

    /** Swaps. */
    static final class Ring {
        int hands = 3;
        int[][] worth = new int[6][6];
        int[] gets = new int[6];
        int[] round = new int[6];
        int rounds = 0;

        Ring(Read read) {
            for (Line line : read.lines) {
                if (line.word.equals("hands")) {
                    hands = line.numbers[0];
                } else {
                    worth[line.numbers[0]][line.numbers[1]] = line.numbers[2];
                }
            }
        }

        void settle() {
            List<Integer> there = new ArrayList<>();
            for (int h = 0; h < hands; h++) {
                there.add(h);
            }
            while (!there.isEmpty()) {
                Map<Integer, Integer> to = new HashMap<>();
                for (int h : there) {
                    int best = there.get(0);
                    for (int other : there) {
                        best = worth[h][other] > worth[h][best] ? other : best;
                    }
                    to.put(h, best);
                }
                // Whoever is still pointed to after as many steps as there are hands is in a ring.
                java.util.Set<Integer> rings = new java.util.TreeSet<>(there);
                for (int step = 0; step < hands; step++) {
                    java.util.Set<Integer> next = new java.util.TreeSet<>();
                    for (int h : rings) {
                        next.add(to.get(h));
                    }
                    rings = next;
                }
                for (int h : rings) {
                    gets[h] = to.get(h);
                    round[h] = rounds;
                }
                there.removeAll(rings);
                rounds++;
            }
        }

        int swap(int what) {
            if (what == 0) {
                return hands;
            }
            if (what == 1) {
                int sum = 0;
                for (int h = 0; h < hands; h++) {
                    sum += worth[h][gets[h]] - worth[h][h];
                }
                return sum;
            }
            if (what == 2) {
                return rounds;
            }
            if (what >= 10 && what < 10 + hands) {
                return gets[what - 10];
            }
            if (what >= 20 && what < 20 + hands) {
                return round[what - 20];
            }
            for (int a = 0; a < hands; a++) {
                for (int b = 0; b < hands; b++) {
                    if (what == 100 + 6 * a + b) {
                        return worth[a][b];
                    }
                }
            }
            return -1000;
        }

        int happy(int what) {
            int answer = 0;
            for (int a = 0; a < hands; a++) {
                boolean best = true;
                for (int b = 0; b < hands; b++) {
                    best &= worth[a][gets[a]] >= worth[a][b];
                    if (what == 1 && a < b && worth[a][b] > worth[a][a] && worth[b][a] > worth[b][b]) {
                        answer++;
                    }
                    if (what == 2 && a != b && worth[a][gets[b]] > worth[a][gets[a]]) {
                        answer++;
                    }
                }
                if (what == 0 && best) {
                    answer += 1 << a;
                }
            }
            return what < 0 || what > 2 ? NONE : answer;
        }
    }

    /** A log: what fits. */
    static List<int[]> fitting(Read log) {
        List<int[]> all = new ArrayList<>();
        for (int first = 0; first < 40; first++) {
            for (int last = first; last < 40; last++) {
                boolean good = true;
                for (Line line : log.lines) {
                    boolean among = line.numbers[0] >= first && line.numbers[0] <= last;
                    good &= among == line.word.equals("gone");
                }
                if (good) {
                    all.add(new int[] {first, last});
                }
            }
        }
        return all;
    }

    static int fits(Read log, int what) {
        List<int[]> all = fitting(log);
        if (what == 0) {
            return all.size();
        }
        if (what == 1 || what == 2) {
            return all.stream().mapToInt(row -> row[what - 1]).distinct().count() == 1 ? all.get(0)[what - 1] : NONE;
        }
        if (what == 3) {
            int best = NONE;
            int least = 1000;
            for (int m = 0; m < 40 && !all.isEmpty(); m++) {
                int in = among(all, m);
                int greater = in > all.size() - in ? in : all.size() - in;
                if (greater < least) {
                    least = greater;
                    best = m;
                }
            }
            return best;
        }
        return what >= 10 && what - 10 < all.size() ? 40 * all.get(what - 10)[0] + all.get(what - 10)[1] : -2;
    }

    private static int among(List<int[]> all, int m) {
        return (int) all.stream().filter(row -> row[0] <= m && m <= row[1]).count();
    }

    static int span(Read log, int what) {
        List<int[]> all = fitting(log);
        if (all.isEmpty() || what < 0 || what > 3) {
            return NONE;
        }
        if (what < 2) {
            java.util.stream.IntStream lengths = all.stream().mapToInt(row -> row[1] - row[0] + 1);
            return (what == 0 ? lengths.min() : lengths.max()).getAsInt();
        }
        int sum = 0;
        for (int m = 0; m < 40; m++) {
            sum += among(all, m) == (what == 2 ? all.size() : 0) ? 1 : 0;
        }
        return sum;
    }
}
