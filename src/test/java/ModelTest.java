import java.util.Random;

/** Long runs of drawn calls: the program must answer as the model does, and never throw. */
public final class ModelTest {
    private static final int[] EXTREMES = {Integer.MIN_VALUE, Integer.MIN_VALUE + 1, -1000000001, -61, -2, -1, 0, 1,
        2, 5, 7, 8, 9, 10, 31, 32, 33, 40, 60, 61, 99, 100, 101, 200, 400, 700, 701, 999, 1000, 65536,
        Integer.MAX_VALUE - 1, Integer.MAX_VALUE};
    /** Sleeper 0 has two minutes whose part is 1 of a billion: the sum must not stop at the first. */
    private static final String SMALLEST_PARTS = "house 1 1 1;sleeper 0 281 59 0;sleeper 0 246 59 0;sleeper 0 249 59 0;"
        + "sleeper 0 249 59 0;sleeper 0 274 59 0;sleeper 0 253 59 0;sleeper 0 263 59 0;sleeper 0 244 59 0;";
    private static final int RUNS = 400, CALLS = 511, CROWDS = 300;

    private final Checks checks = new Checks();
    private Random random;
    private FirstAwake x;
    private Model y;
    private String name;

    public static void main(String[] args) {
        ModelTest test = new ModelTest();
        for (int run = 0; run < RUNS && test.checks.wrongSoFar() == 0; run++) {
            test.play(run);
        }
        for (int crowd = 0; crowd < CROWDS; crowd++) {
            test.askCrowd(crowd);
        }
        test.checks.finish("ModelTest");
    }

    private void play(int run) {
        random = new Random(run);
        x = new FirstAwake();
        y = new Model();
        int calls = 0;
        if (run % 8 != 0) {
            calls += tellValley(run % 3 == 0);
        }
        for (; calls < CALLS; calls++) {
            // searches are slow in the model, so they are drawn seldom
            int call = random.nextInt(100) < 6 ? 16 + random.nextInt(3) : random.nextInt(27);
            if (call >= 16 && call <= 18 && random.nextInt(4) != 0) {
                call = random.nextInt(10) + 6;
            }
            ask(run, calls, call);
            if (call == 1 && random.nextInt(3) != 0 && calls < CALLS - 60) {
                calls += tellValley(random.nextBoolean());
            }
        }
    }

    /** Eight long spans side by side: parts so small that the cuts decide. */
    private void askCrowd(int crowd) {
        random = new Random(-1 - crowd);
        x = new FirstAwake();
        y = new Model();
        feedBoth(crowd == 0 ? SMALLEST_PARTS : Texts.crowd(random));
        for (int law = 0; law < 2; law++) {
            x.law(law);
            y.law(law);
            for (int s = 0; s < 8; s++) {
                checks.due("crowd " + crowd + ", law " + law + ": odds(" + s + ")", x.odds(s), y.odds(s));
            }
        }
    }

    private int tellValley(boolean crowded) {
        return feedBoth(Texts.goodValley(random, crowded));
    }

    private int feedBoth(String text) {
        for (int at = 0; at < text.length(); at += 8) {
            int n = Math.min(8, text.length() - at);
            long bytes = random.nextLong();
            for (int i = 0; i < n; i++) {
                bytes = bytes << 8 | text.charAt(at + i);
            }
            checks.due("feed of a valley", x.feed(n, bytes), y.feed(n, bytes));
        }
        checks.due("valley of " + text, x.valley(), y.valley());
        return (text.length() + 7) / 8 + 1;
    }

    private int number(int most) {
        int kind = random.nextInt(12);
        if (kind == 0) {
            return EXTREMES[random.nextInt(EXTREMES.length)];
        }
        return kind == 1 ? most + random.nextInt(3) - 1 : random.nextInt(most + 1);
    }

    private int none(int most) {
        return random.nextInt(4) == 0 ? -1 : number(most);
    }

    /** Houses and sleepers that there are, most of the time. */
    private int h() {
        return number(Math.max(0, y.houses.size() - 1));
    }

    private int s() {
        return number(Math.max(0, y.sleepers.size() - 1));
    }

    private void ask(int run, int at, int call) {
        int h = h(), s = s();
        int a, b;
        long got, want;
        switch (call) {
            case 0: { a = number(8); long v = random.nextLong(); b = 0; got = x.feed(a, v); want = y.feed(a, v); name = "feed(" + a + ", " + v + ")"; break; }
            case 1: if (random.nextInt(4) != 0) { a = random.nextInt(11); got = x.told(a); want = y.told(a); name = "told(" + a + ")"; } else { got = x.valley(); want = y.valley(); name = "valley()"; } break;
            case 2: got = x.fault(); want = y.fault(); name = "fault()"; break;
            case 3: a = number(10); got = x.told(a); want = y.told(a); name = "told(" + a + ")"; break;
            case 4: a = number(5); got = x.house(h, a); want = y.house(h, a); name = "house(" + h + ", " + a + ")"; break;
            case 5: a = number(6); got = x.sleeper(s, a); want = y.sleeper(s, a); name = "sleeper(" + s + ", " + a + ")"; break;
            case 6: a = number(60); got = x.shift(s, a); want = y.shift(s, a); name = "shift(" + s + ", " + a + ")"; break;
            case 7: a = number(random.nextBoolean() ? 700 : 330); b = number(9); got = x.noise(h, a, b); want = y.noise(h, a, b); name = "noise(" + h + ", " + a + ", " + b + ")"; break;
            case 8: got = x.hush(); want = y.hush(); name = "hush()"; break;
            case 9: a = number(2); got = x.law(a); want = y.law(a); name = "law(" + a + ")"; break;
            case 10: a = number(random.nextBoolean() ? 99 : 4); got = x.dawn(a); want = y.dawn(a); name = "dawn(" + a + ")"; break;
            case 11: a = number(210); b = number(1); got = x.ruler(a, b); want = y.ruler(a, b); name = "ruler(" + a + ", " + b + ")"; break;
            case 12: got = x.odds(s); want = y.odds(s); name = "odds(" + s + ")"; break;
            case 13: a = number((1 << y.houses.size()) - 1); got = x.together(a); want = y.together(a); name = "together(" + a + ")"; break;
            case 14: a = number(60); got = x.work(h, a); want = y.work(h, a); name = "work(" + h + ", " + a + ")"; break;
            case 15: a = number(100); got = x.likely(h, a); want = y.likely(h, a); name = "likely(" + h + ", " + a + ")"; break;
            case 16: a = number(1); got = x.best(h, a); want = y.best(h, a); name = "best(" + h + ", " + a + ")"; break;
            case 17: a = none(Math.max(0, y.houses.size() - 1)); got = x.rests(a); want = y.rests(a); name = "rests(" + a + ")"; break;
            case 18: a = number(2); got = x.loud(h, a); want = y.loud(h, a); name = "loud(" + h + ", " + a + ")"; break;
            case 19: case 20: a = minute(s); got = x.tell(s, a); want = y.tell(s, a); name = "tell(" + s + ", " + a + ")"; break;
            case 21: if (random.nextInt(3) == 0) { got = x.forget(); want = y.forget(); name = "forget()"; } else { got = x.lies(); want = y.lies(); name = "lies()"; } break;
            case 22: got = x.lies(); want = y.lies(); name = "lies()"; break;
            case 23: a = none(60); got = x.fits(s, a); want = y.fits(s, a); name = "fits(" + s + ", " + a + ")"; break;
            case 24: a = random.nextInt(); got = x.seed(a); want = y.seed(a); name = "seed(" + a + ")"; break;
            case 25: a = number(1); got = x.keep(a); want = y.keep(a); name = "keep(" + a + ")"; break;
            default: a = number(1); got = x.goBack(a); want = y.goBack(a); name = "goBack(" + a + ")"; break;
        }
        checks.due("run " + run + ", call " + at + ": " + name, got, want);
    }

    /** Mostly one of the minutes at which it may wake. */
    private int minute(int s) {
        if (s < 0 || s >= y.sleepers.size() || random.nextInt(4) == 0) {
            return number(999);
        }
        int first = y.sleeper(s, 5), last = y.sleeper(s, 6);
        return first + random.nextInt(last - first + 1);
    }
}
