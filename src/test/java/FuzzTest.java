import java.util.Random;

/** Any arguments in any state: no call throws, and what only asks changes nothing that is told, nor any later answer. */
public final class FuzzTest {
    private static final Random RANDOM = new Random(7L);
    private static final int[] ODD = {Integer.MIN_VALUE, Integer.MAX_VALUE, -1000, -3, -2, -1, 40, 41, 63, 64, 65, 99,
        100, 139, 200, 239, 300, 339, 600, 820, 1 << 30};
    private static final String[] TEXTS = {
        Check.STREET,
        "minutes 40;people 4;coins 3 99;has 3 0 39;has 1 4 8;price 0 39 9;business 9 0 39 99;business 9 0 39 9;"
            + "business 9 0 39 9;business 9 3 39 9;business 1 39 39 1;business 9 31 39 5;",
        "minutes 1;people 1;business 1 0 0 0;", "",
        "buy 0 0;think 0 0;steal 1 3;sell 3 39;do 0 0 0;dearer 0;cheaper 39;", "do 3 5 39;",
        "gone 39;there 0;gone 5;", "there 39;there 0;gone 39;",
        "hands 6;worth 5 5 9;worth 0 5 9;worth 5 0 8;", "hands 2;", "minutes 41;", "?"};

    private FuzzTest() {
    }

    public static void main(String[] args) {
        for (int round = 0; round < 500; round++) {
            StolenHours x = new StolenHours();
            for (int call = 0; call < 380; call++) {
                if (RANDOM.nextInt(12) == 0) {
                    change(x);
                } else {
                    ask(x, RANDOM.nextInt(28));
                }
            }
            asksChangeNothing();
        }
        for (int round = 0; round < 40; round++) {
            asksChangeNoAnswer();
        }
        Check.finish("FuzzTest");
    }

    private static int any() {
        int kind = RANDOM.nextInt(8);
        if (kind == 0) {
            return ODD[RANDOM.nextInt(ODD.length)];
        }
        return kind == 1 ? RANDOM.nextInt(350) - 5 : RANDOM.nextInt(kind < 5 ? 2 : 5) - (kind == 7 ? 1 : 0);
    }

    private static boolean either() {
        return RANDOM.nextBoolean();
    }

    private static void change(StolenHours x) {
        switch (RANDOM.nextInt(6)) {
            case 0:
                x.feed(RANDOM.nextInt(), any(), any(), any(), any());
                break;
            case 1:
                x.end(any());
                break;
            case 2:
                x.text(any(), any());
                break;
            case 3:
                x.image(any());
                break;
            case 4:
                x.again(any());
                break;
            default:
                Check.put(x, TEXTS[RANDOM.nextInt(TEXTS.length)]);
                x.text(RANDOM.nextInt(4), RANDOM.nextInt(3) - 1);
                break;
        }
    }

    private static long ask(StolenHours x, int call) {
        switch (call) {
            case 0: return x.fault(any());
            case 1: return x.street(any(), any());
            case 2: return x.deed(any(), any(), any());
            case 3: return x.till(any(), any());
            case 4: return x.state(any(), any(), any(), any());
            case 5: return x.run(any(), any(), any(), either());
            case 6: return x.errands(any(), any(), any(), any());
            case 7: return x.plan(any(), any(), either());
            case 8: return x.halves(any(), either());
            case 9: return x.free(any(), any(), either());
            case 10: return x.corner(any(), any(), any());
            case 11: return x.tin(any(), any(), any(), either());
            case 12: return x.waits(any(), any());
            case 13: return x.fact(any(), any(), any());
            case 14: return x.fits(any(), any());
            case 15: return x.swap(any(), any());
            case 16: return x.drawn(any(), RANDOM.nextInt(), any(), any());
            case 17: return x.robbed(any(), any(), any());
            case 18: return x.shared(any(), any(), any());
            case 19: return x.gift(any(), any(), any(), either());
            case 20: return x.missed(any(), any(), any());
            case 21: return x.wanted(any(), either());
            case 22: return x.left(any(), any());
            case 23: return x.early(any(), any(), any());
            case 24: return x.ranked(any(), any(), any());
            case 25: return x.enough(any(), any()) + x.count(any());
            case 26: return x.after(any(), any(), any());
            default: return x.span(any(), any()) + x.happy(any(), any());
        }
    }

    private static void asksChangeNothing() {
        StolenHours x = new StolenHours();
        for (int i = 0; i < 12; i++) {
            change(x);
        }
        Check.put(x, "minutes 7;");
        String before = Check.told(x);
        for (int i = 0; i < 60; i++) {
            ask(x, RANDOM.nextInt(28));
        }
        Check.due("all told", Check.told(x), before);
        Check.hasTape("behind questions", x, 10);
    }

    /** One that was asked much before answers as one that was asked nothing. */
    private static void asksChangeNoAnswer() {
        StolenHours asked = withTwoOfEach();
        for (int i = 0; i < 300; i++) {
            long seed = RANDOM.nextLong();
            int call = RANDOM.nextInt(28);
            // the same seed draws the same arguments for both
            RANDOM.setSeed(seed);
            long got = ask(asked, call);
            if (i % 3 == 0) {
                RANDOM.setSeed(seed);
                Check.due("call " + call + " behind " + i + " others, by " + seed, got, ask(withTwoOfEach(), call));
            }
            RANDOM.setSeed(seed + 1);
        }
    }

    private static StolenHours withTwoOfEach() {
        StolenHours x = new StolenHours();
        String[] texts = {TEXTS[0], TEXTS[1], TEXTS[4], "steal 3 4;think 3 4;do 3 0 9;sell 3 0;", "gone 5;there 2;",
            "gone 9;gone 12;there 20;", "hands 4;worth 0 1 9;worth 1 0 4;worth 2 0 8;worth 3 2 3;", TEXTS[8]};
        for (int i = 0; i < texts.length; i++) {
            Check.due("text " + i, Check.tell(x, i / 2, StolenHours.NONE, texts[i]), i % 2);
        }
        return x;
    }
}
