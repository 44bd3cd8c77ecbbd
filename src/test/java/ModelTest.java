import java.util.Random;

/** Compares the class with the model on texts made by fixed seeds. */
public final class ModelTest {
    private static final int NONE = -1;
    private static final Random RANDOM = new Random(20261118L);

    private ModelTest() {
    }

    public static void main(String[] args) {
        for (int i = 0; i < 3000; i++) {
            compareFaults(RANDOM.nextInt(4));
        }
        for (int i = 0; i < 400; i++) {
            compareStreet();
        }
        for (int i = 0; i < 300; i++) {
            compareLog();
            compareSwaps();
        }
        Check.finish("ModelTest");
    }

    private static int below(int n) {
        return RANDOM.nextInt(n);
    }

    private static String streetText(int minutes, int businesses) {
        int people = 1 + below(4);
        StringBuilder text = new StringBuilder("minutes " + minutes + ";people " + people + ";");
        for (int p = 0; p < people; p++) {
            text.append("coins " + p + " " + (below(3) == 0 ? below(100) : below(15)) + ";");
        }
        for (int i = below(5); i > 0; i--) {
            int first = below(minutes);
            text.append("price " + first + " " + (first + below(minutes - first)) + " " + below(10) + ";");
        }
        for (int i = below(6); i > 0; i--) {
            int first = below(minutes);
            text.append("has " + below(people) + " " + first + " " + (first + below(minutes - first)) + ";");
        }
        for (int i = 0; i < businesses; i++) {
            int first = below(minutes);
            int last = first + below(minutes - first);
            text.append("business " + (1 + below(below(4) == 0 ? 9 : 3)) + " " + first + " " + last + " " + below(20) + ";");
        }
        return text.toString();
    }

    private static String yearText(int minutes, int people, int businesses) {
        StringBuilder text = new StringBuilder();
        for (int i = below(41); i > 0; i--) {
            String line;
            switch (below(8)) {
                case 0:
                    line = "do " + below(people) + " " + below(Math.max(1, businesses)) + " " + below(minutes);
                    break;
                case 1:
                    line = "dearer " + below(minutes);
                    break;
                case 2:
                    line = "cheaper " + below(minutes);
                    break;
                case 3:
                    line = "steal " + below(people) + " " + below(minutes);
                    break;
                case 4:
                    line = "sell " + below(people) + " " + below(minutes);
                    break;
                case 5:
                    line = "think " + below(people) + " " + below(minutes);
                    break;
                default:
                    line = "buy " + below(people) + " " + below(minutes);
                    break;
            }
            text.append(line).append(";");
        }
        return text.toString();
    }

    /** A year of whose deeds most can be: each is drawn again and again until it can. */
    private static String likelyYear(String street) {
        StringBuilder text = new StringBuilder();
        Model.Town town = new Model.Town(Model.read(street, 0));
        for (int i = 0; i < 38; i++) {
            String found = null;
            for (int tried = 0; tried < 60 && found == null; tried++) {
                String line = yearText(town.minutes, town.people, town.business.size());
                line = line.substring(0, line.indexOf(';') + 1);
                if (line.isEmpty()) {
                    continue;
                }
                Model.Line deed = Model.read(line, 1).lines.get(0);
                found = town.goes(deed.word(), deed.numbers()) ? line : null;
            }
            if (found != null) {
                text.append(found);
            }
        }
        return text + yearText(town.minutes, town.people, 1).replaceAll(";.*", ";");
    }

    private static String logText() {
        StringBuilder text = new StringBuilder();
        int first = below(40);
        int last = first + below(40 - first);
        for (int i = below(9); i > 0; i--) {
            int minute = below(3) == 0 ? Math.min(39, first + below(3)) : below(40);
            boolean gone = below(20) == 0 ? below(2) == 0 : minute >= first && minute <= last;
            text.append((gone ? "gone " : "there ") + minute + ";");
        }
        return text.toString();
    }

    private static String swapsText() {
        int hands = 2 + below(5);
        StringBuilder text = new StringBuilder("hands " + hands + ";");
        int top = 1 + below(10);
        for (int i = below(40); i > 0; i--) {
            text.append("worth " + below(hands) + " " + below(hands) + " " + below(top) + ";");
        }
        return text.toString();
    }

    private static String anyText(int sort) {
        switch (sort) {
            case 0:
                return streetText(1 + below(40), below(8));
            case 1:
                return yearText(40, 4, 6) + (below(4) == 0 ? Check.times("buy 1 1;", 30) : "");
            case 2:
                return logText() + (below(4) == 0 ? "gone 1;there 2;gone 3;" : "");
            default:
                return swapsText();
        }
    }

    private static String spoiled(String text) {
        String more = " \n;0123456789abz\t\0\u00ffA-";
        String[] words = {"minutes", "minutes 3;", "people 1;", "price 9 3 1;", "has 2 2 1;", "business 0 0 0 0;", "123",
            "buy 0 40;", "do 0 6 0;", "hands 7;", "hands 2;", "worth 0 6 1;", "gone 40;", "cheaper 40;", "coins 4 1;"};
        StringBuilder spoiled = new StringBuilder(text);
        for (int i = below(4); i > 0; i--) {
            int at = below(spoiled.length() + 1);
            switch (below(5)) {
                case 0:
                    spoiled.insert(at, more.charAt(below(more.length())));
                    break;
                case 1:
                    spoiled.insert(spoiled.lastIndexOf(";", at) + 1, words[below(words.length)]);
                    break;
                case 2:
                    spoiled.setLength(at);
                    break;
                case 3:
                    spoiled.insert(at, below(10));
                    break;
                default:
                    if (at < spoiled.length()) {
                        spoiled.deleteCharAt(at);
                    }
                    break;
            }
        }
        if (spoiled.length() > 600) {
            spoiled.setLength(600);
        }
        return spoiled.toString();
    }

    private static void compareFaults(int sort) {
        String text = spoiled(anyText(below(20) == 0 ? below(4) : sort));
        Model.Read read = Model.read(text, sort);
        StolenHours x = new StolenHours();
        String call = "text(" + sort + ") of " + text;
        Check.due(call, Check.tell(x, sort, NONE, text), read.fault == 0 ? 0 : NONE);
        Check.due("fault(0), " + call, x.fault(0), read.fault);
        Check.due("fault(1), " + call, x.fault(1), read.place);
        Check.due("count(), " + call, x.count(sort), read.fault == 0 ? 1 : 0);
        Check.due("end(1), " + call, x.end(1), NONE);
        if (read.fault == 0 && sort == 1) {
            compareDeeds(x, read, text);
        }
    }

    private static void compareDeeds(StolenHours x, Model.Read read, String text) {
        java.util.List<String> words = java.util.List.of("buy", "think", "steal", "sell", "do", "dearer", "cheaper");
        Check.due("deed(0, NONE, 0) of " + text, x.deed(0, NONE, 0), read.lines.size());
        for (int k = 0; k < read.lines.size(); k++) {
            Model.Line line = read.lines.get(k);
            Check.due("deed(0, " + k + ", 0) of " + text, x.deed(0, k, 0), words.indexOf(line.word()));
            for (int i = 0; i < 3; i++) {
                int want = i < line.numbers().length ? line.numbers()[i] : NONE;
                Check.due("deed(0, " + k + ", " + (i + 1) + ") of " + text, x.deed(0, k, i + 1), want);
            }
        }
    }

    private static void compareStreet() {
        int minutes = below(3) == 0 ? 1 + below(40) : 1 + below(14);
        String text = streetText(minutes, minutes > 14 ? below(4) : below(6));
        if (below(3) == 0) {
            text += "business 1 0 0 5;";
        }
        Model.Read read = Model.read(text, 0);
        StolenHours x = Check.withStreet(text);
        Model.Town town = new Model.Town(read);
        for (int what = -3; what < 310; what++) {
            Check.due("street(0, " + what + ") of " + text, x.street(0, what), town.told(what));
        }
        comparePeople(town, text);
        x = Check.withStreet(text);
        int[] halves = town.halves(0, new int[40][]);
        Check.due("halves(0, false) of " + text, x.halves(0, false), halves[0]);
        Check.due("halves(0, true) of " + text, x.halves(0, true), halves[1]);
        Check.due("wanted(0, false) of " + text, x.wanted(0, false), town.wanted()[0]);
        Check.due("wanted(0, true) of " + text, x.wanted(0, true), town.wanted()[1]);
        compareYear(read, text, likelyYear(text));
        compareYear(read, text, yearText(minutes, town.people, town.business.size()));
        compareDrawn(read, text);
    }

    private static void comparePeople(Model.Town town, String text) {
        for (int p = 0; p < town.people; p++) {
            StolenHours x = Check.withStreet(text);
            String of = " of " + p + " in " + text;
            Check.due("free" + of, x.free(0, p, false), town.longest(p)[0]);
            Check.due("free first" + of, x.free(0, p, true), town.longest(p)[1]);
            compareBusiness(x, town, p, of);
            comparePlan(x, town, p, of);
            boolean[] others = new boolean[40];
            for (int m = 0; m < town.minutes; m++) {
                others[m] = town.owner[m] != p;
            }
            java.util.List<Integer> corner = town.fewest(others);
            java.util.List<Integer> robbed = town.fewest(town.marks(p, p));
            for (int k = -2; k < 4; k++) {
                Check.due("corner " + k + of, x.corner(0, p, k), rowAt(corner, k));
                Check.due("robbed " + k + of, x.robbed(0, p, k), rowAt(robbed, k));
            }
            for (int q = 0; q < town.people; q++) {
                int alone = town.possible(town.marks(p, p)) | town.possible(town.marks(q, q));
                int want = p == q ? NONE : town.possible(town.marks(p, q)) & ~alone;
                Check.due("shared with " + q + of, x.shared(0, p, q), want);
            }
        }
    }

    private static int rowAt(java.util.List<Integer> row, int k) {
        if (row == null) {
            return NONE;
        }
        if (k == NONE) {
            return row.size();
        }
        return k >= 0 && k < row.size() ? row.get(k) : NONE;
    }

    private static void compareBusiness(StolenHours x, Model.Town town, int p, String of) {
        for (int b = 0; b < town.business.size(); b++) {
            int[] best = town.best(p, b);
            Check.due("run " + b + of, x.run(0, p, b, false), best == null ? NONE : best[0]);
            Check.due("run cost " + b + of, x.run(0, p, b, true), best == null ? NONE : best[1]);
        }
        java.util.List<Integer> ranked = town.ranked(p);
        for (int k = -1; k < 7; k++) {
            Check.due("ranked " + k + of, x.ranked(0, p, k), k >= 0 && k < ranked.size() ? ranked.get(k) : NONE);
        }
        int sets = 1 << town.business.size();
        for (int tried = 0; tried < 3; tried++) {
            int set = below(sets);
            int[] errands = town.errands(p, set, NONE);
            Check.due("errands " + set + of, x.errands(0, p, set, NONE), errands == null ? NONE : errands[6]);
            for (int b = 0; b < 6; b++) {
                Check.due("errands " + set + " " + b + of, x.errands(0, p, set, b), errands == null ? NONE : errands[b]);
            }
            int[] gift = Integer.bitCount(set) > 3 && town.minutes > 8 ? null : town.gift(p, set);
            if (Integer.bitCount(set) <= 3 || town.minutes <= 8) {
                Check.due("gift " + set + of, x.gift(0, p, set, false), gift == null ? NONE : gift[0]);
                Check.due("gift cost " + set + of, x.gift(0, p, set, true), gift == null ? NONE : gift[1]);
            }
            Check.due("early " + set + of, x.early(0, p, set), town.early(p, set));
        }
    }

    private static void comparePlan(StolenHours x, Model.Town town, int p, String of) {
        int[] plan = town.plan(p, NONE);
        Check.due("plan" + of, x.plan(0, p, false), plan[0]);
        Check.due("plan much" + of, x.plan(0, p, true), plan[1]);
        Check.due("left" + of, x.left(0, p), town.coins[p] + plan[1]);
        for (int tried = 0; tried < 2; tried++) {
            int m = below(town.minutes);
            Check.due("missed " + m + of, x.missed(0, p, m), plan[1] - town.plan(p, m)[1]);
        }
    }

    private static StolenHours living(String text, String year) {
        StolenHours x = Check.withStreet(text);
        Check.due("text(1) of " + year + " in " + text, Check.tell(x, 1, NONE, year), 0);
        return x;
    }

    private static void compareYear(Model.Read street, String text, String year) {
        Model.Read read = Model.read(year, 1);
        String of = " of " + year + " in " + text;
        StolenHours x = living(text, year);
        Model.Town whole = new Model.Town(street);
        int end = whole.live(read, read.lines.size());
        Check.due("till" + of, x.till(0, 0), end);
        for (int what = -1; what < 6; what++) {
            Check.due("after " + what + of, x.after(0, 0, what), whole.after(what));
        }
        Check.due("state behind END" + of, x.state(0, 0, end + 1, 0), -2);
        int[] places = {end, end / 2, below(end + 1)};
        for (int n : places) {
            x = living(text, year);
            Model.Town town = new Model.Town(street);
            town.live(read, n);
            for (int what = -2; what < 345; what++) {
                Check.due("state " + n + " " + what + of, x.state(0, 0, n, what), town.state(what));
            }
        }
    }

    private static void compareDrawn(Model.Read street, String text) {
        StolenHours x = Check.withStreet(text);
        int seed = RANDOM.nextInt();
        int n = below(61);
        Model.Town town = new Model.Town(street);
        town.draw(seed, n);
        for (int what = -2; what < 345; what++) {
            Check.due("drawn " + seed + " " + n + " " + what + " in " + text, x.drawn(0, seed, n, what), town.state(what));
        }
    }

    private static void compareLog() {
        String text = logText();
        StolenHours x = Check.with(2, text);
        Model.Read read = Model.read(text, 2);
        for (int what = -1; what < 20; what++) {
            Check.due("fits " + what + " of " + text, x.fits(0, what), Model.fits(read, what));
            Check.due("span " + what + " of " + text, x.span(0, what), Model.span(read, what));
        }
        int last = Model.fits(read, 0) + 9;
        Check.due("fits " + last + " of " + text, x.fits(0, last), Model.fits(read, last));
        Check.due("fits " + (last + 1) + " of " + text, x.fits(0, last + 1), -2);
        Check.due("facts of " + text, x.fact(0, NONE, 0), read.lines.size());
        for (int k = 0; k < read.lines.size(); k++) {
            Model.Line line = read.lines.get(k);
            Check.due("fact " + k + " of " + text, x.fact(0, k, 0), line.word().equals("gone") ? 1 : 0);
            Check.due("fact " + k + " of " + text, x.fact(0, k, 1), line.numbers()[0]);
        }
    }

    private static void compareSwaps() {
        String text = swapsText();
        StolenHours x = Check.with(3, text);
        Model.Ring ring = new Model.Ring(Model.read(text, 3));
        ring.settle();
        for (int what = -2; what < 140; what++) {
            Check.due("swap " + what + " of " + text, x.swap(0, what), ring.swap(what));
        }
        for (int what = -1; what < 4; what++) {
            Check.due("happy " + what + " of " + text, x.happy(0, what), ring.happy(what));
        }
    }
}
