import java.util.Arrays;

/**
 * The document's edges, in its order, where PromisesTest and FaultsTest do not stand on them yet:
 * least and greatest numbers and their neighbours, empty and full, and what begins anew.
 */
public final class EdgesTest {
    private static final int NONE = -1, UNKNOWN = -1000000001, OUTSIDE = -1000000002, NOT = -1000000003, FULL = -1000000004;
    private static final int LOW = Integer.MIN_VALUE, HIGH = Integer.MAX_VALUE;
    private static final int BILLION = 1000000000;
    private static final long FACTOR = 1103515245L, STEP = 12345L, ROUND = 1L << 31;

    private static final String HOUSE = "house 1 1 1;", SLEEPER = "sleeper 0 60 0 0;";
    /** One sleeper, sharp, of a house whose work needs one day. */
    private static final String ALONE = "house 1 999 60;sleeper 0 300 0 0;";

    private final Checks checks = new Checks();

    public static void main(String[] args) {
        EdgesTest test = new EdgesTest();
        test.theText();
        test.theSleep();
        test.theDays();
        test.theOdds();
        test.theToldRulers();
        test.theImages();
        test.checks.finish("EdgesTest");
    }

    private void due(String call, long got, long want) {
        checks.due(call, got, want);
    }

    // ---- 1 the valley

    private void theText() {
        eachCountOfBytes();
        bytesOfAllKinds();
        fullByEachCount();
        leastNumbers();
        greatestNumbers();
        figures();
        houseToldAhead();
        besideBlanks();
        eachLetter();
        misplacedAndTooMany();
        faultsAtTheEndOfAFullText();
        fullValley();
        emptyValleys();
    }

    private FirstAwake read(String text, int answer, int fault) {
        FirstAwake x = new FirstAwake();
        Checks.feedText(x, text);
        due("valley of '" + text + "'", x.valley(), answer);
        due("fault of '" + text + "'", x.fault(), fault);
        return x;
    }

    private static void feedBy(FirstAwake x, String text, int n) {
        for (int at = 0; at < text.length(); at += n) {
            // bytes above the n that come must not come
            long bytes = -1;
            for (int i = 0; i < n; i++) {
                bytes = bytes << 8 | text.charAt(at + i);
            }
            x.feed(n, bytes);
        }
    }

    private void eachCountOfBytes() {
        String text = "house 3 45 6;sleeper 0 78 9 1;";
        for (int n = 1; n <= 8; n++) {
            FirstAwake x = new FirstAwake();
            String whole = text + " ".repeat((n - text.length() % n) % n);
            feedBy(x, whole, n);
            due("feed by " + n + ": bytes", x.told(2), whole.length());
            due("feed by " + n + ": valley", x.valley(), 1);
            due("feed by " + n + ": V", x.house(0, 1), 45);
            due("feed by " + n + ": L", x.sleeper(0, 3), 1);
        }
    }

    private void bytesOfAllKinds() {
        for (long bytes : new long[] {Long.MIN_VALUE, Long.MAX_VALUE, -1L, 0L}) {
            FirstAwake x = new FirstAwake();
            due("feed(8, " + bytes + ")", x.feed(8, bytes), 8);
            due("it cannot stand there", x.valley(), -11);
            due("at its first byte", x.fault(), 0);
        }
        // neighbours of the blank and of ';', and those that only a sign bit tells apart
        for (int sign : new int[] {0, 9, 10, 13, 31, 33, 32 + 128, 127, 255}) {
            read(HOUSE + (char) sign, -11, 12);
            read("house" + (char) sign + "1 1 1;", -11, 5);
        }
        for (int sign : new int[] {':', '<', ';' + 128}) {
            read("house 1 1 1" + (char) sign, -11, 11);
        }
        read("house " + (char) ('1' + 128) + " 1 1;", -11, 6);
        read((char) ('h' + 128) + "ouse 1 1 1;", -11, 0);
        read("hous" + (char) ('e' + 128) + " 1 1 1;", -11, 0);
        for (int sign = 0; sign < 256; sign++) {
            boolean fits = sign == ' ' || sign == ';';
            read("house 1 1 1 " + (char) sign, sign == ';' ? 0 : -11, sign == ';' ? NONE : fits ? 13 : 12);
        }
    }

    private void fullByEachCount() {
        for (int n = 1; n <= 8; n++) {
            FirstAwake x = new FirstAwake();
            Checks.feedText(x, HOUSE + " ".repeat(389 - n));
            due("one byte too many by " + n, x.feed(n, -1L), FULL);
            due("none of them came", x.told(2), 401 - n);
            due("the text is as it was", x.valley(), 0);
            Checks.feedText(x, HOUSE + " ".repeat(388 - n));
            due("the last bytes by " + n, x.feed(n, 0x2020202020202020L), 400);
            for (int more = 1; more <= 8; more++) {
                due("behind 400 bytes, " + more, x.feed(more, -1L), FULL);
            }
            due("n 0 behind 400 bytes", x.feed(0, 0), OUTSIDE);
            due("n 9 behind 400 bytes", x.feed(9, 0), OUTSIDE);
            due("400 bytes", x.told(2), 400);
            due("they are read", x.valley(), 0);
            due("no fault", x.fault(), NONE);
            due("room again for " + n, x.feed(n, 0x2020202020202020L), n);
        }
    }

    private void askAll(String name, FirstAwake x, int[] house, int[] sleeper) {
        for (int what = 0; what < house.length; what++) {
            due(name + ": house(0, " + what + ")", x.house(0, what), house[what]);
        }
        for (int what = 0; what < sleeper.length; what++) {
            due(name + ": sleeper(0, " + what + ")", x.sleeper(0, what), sleeper[what]);
        }
    }

    private void leastNumbers() {
        FirstAwake x = read("house 1 0 0;sleeper 0 60 0 0;", 1, NONE);
        askAll("least", x, new int[] {1, 0, 0, 0, 0, 1}, new int[] {0, 60, 0, 0, 0, 60, 60});
        read("house 0 0 0;", -12, 6);
        read("house 000 0 0;", -12, 6);
        read("house 1 -1 0;", -11, 8);
        read("house 1 0 -1;", -11, 10);
        read(HOUSE + "sleeper -1 60 0 0;", -11, 20);
        read(HOUSE + "sleeper 0 059 0 0;", -12, 22);
        read(HOUSE + "sleeper 0 0 0 0;", -12, 22);
        read(HOUSE + "sleeper 0 60 -1 0;", -11, 25);
        read(HOUSE + "sleeper 0 60 0 -1;", -11, 27);
    }

    private void greatestNumbers() {
        FirstAwake x = read("house 7 999 60;sleeper 0 600 59 9;", 1, NONE);
        askAll("greatest", x, new int[] {7, 999, 60, 0, 0, 1}, new int[] {0, 600, 59, 9, 0, 541, 659});
        read("house 999 0 0;", -12, 6);
        read("house 1 0 999;", -12, 10);
        read(HOUSE + "sleeper 999 60 0 0;", -12, 20);
        read(HOUSE + "sleeper 0 999 0 0;", -12, 22);
        read(HOUSE + "sleeper 0 60 999 0;", -12, 25);
        read(HOUSE + "sleeper 0 60 0 999;", -12, 27);
    }

    /** Three figures stand in each place, a fourth in none, though it be a 0 ahead of the others. */
    private void figures() {
        String[] houseNumbers = {"007", "005", "010"};
        String[] sleeperNumbers = {"000", "099", "009", "004"};
        FirstAwake x = read("house 007 005 010;sleeper 000 099 009 004;", 1, NONE);
        askAll("three figures", x, new int[] {7, 5, 10}, new int[] {0, 99, 9, 4});
        for (int i = 0; i < houseNumbers.length; i++) {
            read(withFourFigures("house", houseNumbers, i), -12, 6 + 4 * i);
        }
        for (int i = 0; i < sleeperNumbers.length; i++) {
            read(HOUSE + withFourFigures("sleeper", sleeperNumbers, i), -12, 20 + 4 * i);
        }
        // by numbers of 32 bits these would be 1, 0 and 1
        read("house 4294967297 1 1;", -12, 6);
        read("house 1 4294967296 1;", -12, 8);
        read("house 18446744073709551617 1 1;", -12, 6);
    }

    private static String withFourFigures(String word, String[] numbers, int place) {
        String[] copy = numbers.clone();
        copy[place] = "0" + copy[place];
        return word + " " + String.join(" ", copy) + ";";
    }

    private void houseToldAhead() {
        String five = HOUSE.repeat(5);
        for (int h = 0; h < 5; h++) {
            FirstAwake x = read(five + "sleeper " + h + " 60 0 0;", 1, NONE);
            due("of house " + h, x.sleeper(0, 0), h);
            due("the set of house " + h, x.house(h, 5), 1);
        }
        read(five + "sleeper 5 60 0 0;", -12, 68);
        for (int told = 0; told < 5; told++) {
            String text = HOUSE.repeat(told) + "sleeper " + told + " 60 0 0;";
            read(text + HOUSE, -12, 12 * told + 8);
        }
    }

    private void besideBlanks() {
        read("house 11 1;", -12, 6);
        read("house 1 11;", -11, 10);
        read("house 1 9 9 5;", -11, 12);
        read(HOUSE + "sleeper 06000;", -12, 20);
        read(HOUSE + "sleeper 0 600 0;", -11, 27);
        read(HOUSE + "sleep er 0 60 0 0;", -11, 12);
        read(HOUSE + "sleepersleeper 0 60 0 0;", -11, 12);
        read("househouse 1 1 1;", -11, 0);
        read("house1 1 1;sleeper0 60 0 0;", 1, NONE);
        read(" house 1 1 1 ; sleeper 0 60 0 0 ; ", 1, NONE);
        read("house 1 1 1;;", -11, 12);
        read(" ", 0, NONE);
        read(" ".repeat(400), 0, NONE);
    }

    /** One other letter, one letter less and one more make another word. */
    private void eachLetter() {
        for (String word : new String[] {"house", "sleeper"}) {
            String behind = word.equals("house") ? " 1 1 1;" : " 0 60 0 0;";
            for (int i = 0; i < word.length(); i++) {
                String ahead = word.substring(0, i);
                String rest = word.substring(i + 1);
                read(HOUSE + ahead + (char) (word.charAt(i) + 1) + rest + behind, -11, 12);
                read(HOUSE + ahead + rest + behind, -11, 12);
                read(HOUSE + ahead + word.charAt(i) + word.charAt(i) + rest + behind, -11, 12);
                // a sign that is no letter ends the word ahead of it
                read(HOUSE + ahead + (char) (word.charAt(i) - 32) + rest + behind, -11, 12);
            }
            read(HOUSE + word + "a" + behind, -11, 12);
            read(HOUSE + word + "z" + behind, -11, 12);
            read(HOUSE + word + "`" + behind, -11, 12 + word.length());
            read(HOUSE + word + "{" + behind, -11, 12 + word.length());
        }
    }

    /** What cannot stand there is fault 1, though it would be one too many as well. */
    private void misplacedAndTooMany() {
        read(HOUSE.repeat(4) + "house 1 1 1 house 1 1 1;", -11, 60);
        read(HOUSE + SLEEPER.repeat(7) + "sleeper 0 60 0 0 sleeper 0 60 0 0;", -11, 12 + 8 * 17);
        read(HOUSE.repeat(5) + "house", -13, 60);
        read(HOUSE.repeat(5) + "housef", -11, 60);
        read(HOUSE.repeat(5) + SLEEPER.repeat(8) + HOUSE, -13, 60 + 8 * 17);
        read(HOUSE.repeat(5) + SLEEPER.repeat(8) + SLEEPER, -13, 60 + 8 * 17);
        // the earlier fault, though a greater one
        read(HOUSE.repeat(6) + "?", -13, 60);
        read(HOUSE + SLEEPER.repeat(9) + "?", -13, 12 + 8 * 17);
        read("house 1 1 61;?", -12, 10);
    }

    private void faultsAtTheEndOfAFullText() {
        read(" ".repeat(388) + HOUSE, 0, NONE);
        read(" ".repeat(399) + "?", -11, 399);
        read(" ".repeat(399) + ";", -11, 399);
        read(" ".repeat(393) + "house 1", -11, 400);
        read(" ".repeat(393) + "house 8", -12, 399);
        read(" ".repeat(389) + "house 1 1 1", -11, 400);
        read("house 1 1 1" + " ".repeat(389), -11, 400);
        read("house 1 1 1" + " ".repeat(388) + ";", 0, NONE);
        read("house" + " ".repeat(395), -11, 400);
        read(HOUSE.repeat(5) + " ".repeat(335) + "house", -13, 395);
    }

    private void fullValley() {
        String text = HOUSE.repeat(5) + SLEEPER.repeat(7) + "sleeper 4 600 59 9;";
        FirstAwake x = read(text + " ".repeat(400 - text.length()), 8, NONE);
        due("five houses", x.told(0), 5);
        due("eight sleepers", x.told(1), 8);
        due("the fifth house", x.house(4, 5), 128);
        due("the first house", x.house(0, 5), 127);
        due("a sixth house", x.house(5, 0), UNKNOWN);
        due("a ninth sleeper", x.sleeper(8, 0), UNKNOWN);
        due("rests of the fifth house", x.rests(4), 0);
        due("rests of a sixth house", x.rests(5), UNKNOWN);
        due("all houses", x.together(31), BILLION);
        due("a sixth bit", x.together(32), UNKNOWN);
        due("a sixth bit and known ones", x.together(63), UNKNOWN);
        due("the highest bit alone", x.together(LOW), UNKNOWN);
        due("the highest bit and known ones", x.together(LOW | 31), UNKNOWN);
    }

    private void emptyValleys() {
        for (String text : new String[] {"", " ", " ".repeat(400)}) {
            FirstAwake x = Checks.of(ALONE);
            x.keep(0);
            Checks.feedText(x, text);
            due("an empty valley", x.valley(), 0);
            due("no fault", x.fault(), NONE);
            due("no houses", x.told(0), 0);
            due("no sleepers", x.told(1), 0);
            due("no bytes", x.told(2), 0);
            due("no image", x.goBack(0), NOT);
            due("no house 0", x.house(0, 0), UNKNOWN);
            due("no sleeper 0", x.sleeper(0, 0), UNKNOWN);
            due("no dawn", x.dawn(1), NOT);
            due("no dawn of 99", x.dawn(99), NOT);
            due("no day", x.told(3), 0);
        }
    }

    // ---- 2 shifts, noise, laws

    private void theSleep() {
        beds();
        earliestMinutes();
        minutesAroundTheNoise();
        lightAroundTheNoise();
        oneNoise();
        likeOnes();
    }

    private void beds() {
        for (int bed : new int[] {0, 1, 30, 59, 60}) {
            FirstAwake x = Checks.of("house 1 1 " + bed + ";sleeper 0 300 0 0;");
            due("beyond a bed of " + bed, x.shift(0, bed + 1), OUTSIDE);
            due("below 0", x.shift(0, -1), OUTSIDE);
            due("not shifted", x.sleeper(0, 4), 0);
            due("to a bed of " + bed, x.shift(0, bed), 0);
            due("shifted", x.sleeper(0, 5), 300 - bed);
            due("back to 0", x.shift(0, 0), bed);
            due("as at first", x.sleeper(0, 6), 300);
        }
    }

    private void earliestMinutes() {
        FirstAwake x = Checks.of("house 1 1 60;sleeper 0 60 59 0;sleeper 0 60 0 0;");
        x.shift(0, 60);
        x.shift(1, 60);
        due("the earliest minute", x.sleeper(0, 5), -59);
        due("its last one", x.sleeper(0, 6), 59);
        due("sharp at 0", x.sleeper(1, 5), 0);
        x.tell(1, 0);
        due("minute 0 may be told", x.lies(), NONE);
        // seed 0 draws 0 first: the first of its minutes
        due("minutes ahead of 0 rule", x.dawn(1), 0);
        due("at such a minute", x.ruler(0, 1), -59);
    }

    private void minutesAroundTheNoise() {
        FirstAwake x = Checks.of("house 1 1 0;house 1 1 0;sleeper 0 299 0 0;sleeper 0 300 0 0;sleeper 0 301 0 0;sleeper 1 600 59 0;");
        x.noise(1, 300, 1);
        int[] due = {299, 300, 300};
        for (int s = 0; s < 3; s++) {
            due("around the noise, sleeper " + s, x.sleeper(s, 5), due[s]);
        }
        due("its own house sleeps", x.sleeper(3, 6), 659);
        x.noise(0, 700, 9);
        due("behind the last minute of all", x.sleeper(3, 6), 659);
        x.noise(0, 659, 9);
        due("at the last minute of all", x.sleeper(3, 6), 659);
        x.noise(0, 658, 9);
        due("a minute ahead of it", x.sleeper(3, 6), 658);
        due("the first stays", x.sleeper(3, 5), 541);
        x.noise(0, 541, 9);
        due("at its first, first", x.sleeper(3, 5), 541);
        due("at its first, last", x.sleeper(3, 6), 541);
        x.noise(0, 540, 9);
        due("ahead of its first, first", x.sleeper(3, 5), 540);
        due("ahead of its first, last", x.sleeper(3, 6), 540);
    }

    private void lightAroundTheNoise() {
        for (int light = 0; light <= 9; light++) {
            FirstAwake x = Checks.of("house 1 1 0;house 1 1 0;sleeper 1 300 0 " + light + ";");
            for (int loud = 0; loud <= 9; loud++) {
                x.noise(0, 0, loud);
                due("light " + light + ", loudness " + loud, x.sleeper(0, 5), light < loud ? 0 : 300);
            }
        }
    }

    /** One noise at most: a second one takes the place of the first. */
    private void oneNoise() {
        FirstAwake x = Checks.of("house 1 1 0;house 1 1 0;house 1 1 0;sleeper 0 300 0 0;sleeper 1 300 0 0;");
        due("none was", x.noise(0, 0, 9), 0);
        due("sleeper 1 hears it", x.sleeper(1, 5), 0);
        due("the same again", x.noise(0, 0, 9), 1);
        due("another", x.noise(1, 100, 1), 1);
        due("sleeper 1 sleeps on", x.sleeper(1, 5), 300);
        due("sleeper 0 hears that", x.sleeper(0, 5), 100);
        due("from a house without sleepers", x.noise(2, 50, 1), 1);
        due("sleeper 0 hears it", x.sleeper(0, 5), 50);
        due("sleeper 1 hears it", x.sleeper(1, 5), 50);
        due("of loudness 0", x.noise(2, 0, 0), 1);
        due("it is a noise", x.told(5), 0);
        due("that nobody hears", x.sleeper(0, 5), 300);
        due("one to hush", x.hush(), 1);
        due("none is left", x.hush(), 0);
    }

    private void likeOnes() {
        FirstAwake x = Checks.of(HOUSE + "sleeper 0 301 0 0;" + "sleeper 0 300 0 0;".repeat(6) + "sleeper 0 299 0 0;");
        due("the first alone", x.dawn(1), 7);
        x.law(1);
        due("the last alone", x.dawn(1), 0);
        FirstAwake y = Checks.of(HOUSE + "sleeper 0 301 0 0;" + "sleeper 0 300 0 0;".repeat(7));
        due("of seven like ones the least", y.dawn(1), 1);
        due("its odds", y.odds(1), BILLION);
        due("those of the next", y.odds(2), 0);
        FirstAwake z = Checks.of(HOUSE + "sleeper 0 299 0 0;" + "sleeper 0 300 0 0;".repeat(7));
        z.law(1);
        due("of seven like ones by the last the least", z.dawn(1), 1);
        due("its odds", z.odds(1), BILLION);
        due("those of the next", z.odds(2), 0);
    }

    // ---- 2 dawns and draws

    private void theDays() {
        everySleeperDraws();
        seedsAtTheEnds();
        firstAndLastMinute();
        daysOnEnd();
        keptRulers();
        asManyDaysAsThereMayBe();
    }

    private static long next(long seed) {
        return (seed * FACTOR + STEP) % ROUND;
    }

    /** The seed whose draw makes it this one. */
    private static long before(long seed) {
        // Newton's way to the factor's other half: each step doubles the bits that fit
        long inverse = FACTOR;
        for (int i = 0; i < 6; i++) {
            inverse *= 2 - FACTOR * inverse;
        }
        return (seed - STEP) * inverse & ROUND - 1;
    }

    private void everySleeperDraws() {
        for (int sleepers = 1; sleepers <= 8; sleepers++) {
            FirstAwake x = Checks.of(HOUSE + SLEEPER.repeat(sleepers));
            for (int law = 0; law <= 2; law++) {
                x.law(law);
                x.seed(0);
                long seed = 0;
                int draws = law == 2 ? sleepers + 1 : sleepers;
                for (int i = 0; i < draws; i++) {
                    seed = next(seed);
                }
                int who = x.dawn(1);
                due(sleepers + " sleepers of span 0 by law " + law + ": the seed", x.seed(0), seed);
                due("the ruler", who, law == 2 ? seed / 65536 % sleepers : 0);
            }
        }
    }

    private void seedsAtTheEnds() {
        FirstAwake x = Checks.of("house 1 1 0;sleeper 0 300 59 0;");
        due("0 at first", x.seed(0), 0);
        x.dawn(1);
        due("from 0", x.seed(HIGH), 12345);
        due("draw 0 of 119", x.ruler(0, 1), 241);
        x.dawn(1);
        due("from 2147483647", x.seed((int) before(0)), 1043980748);
        due("15929 of 119", x.ruler(1, 1), 241 + 15929 % 119);
        x.dawn(1);
        due("it becomes 0", x.seed((int) before(HIGH)), 0);
        due("a draw of 0", x.ruler(2, 1), 241);
        x.dawn(1);
        due("it becomes 2147483647", x.seed((int) before(65535)), HIGH);
        due("a draw of 32767", x.ruler(3, 1), 241 + 32767 % 119);
        x.dawn(1);
        due("it becomes 65535", x.seed((int) before(65536)), 65535);
        due("a draw of 0 still", x.ruler(4, 1), 241);
        x.dawn(1);
        due("it becomes 65536", x.seed(0), 65536);
        due("a draw of 1", x.ruler(5, 1), 242);
    }

    private void firstAndLastMinute() {
        FirstAwake x = Checks.of("house 1 1 0;sleeper 0 300 59 0;");
        int[] draws = {0, 1, 117, 118, 119, 237, 238};
        for (int i = 0; i < draws.length; i++) {
            x.seed((int) before(draws[i] * 65536L));
            x.dawn(1);
            due("draw " + draws[i] + " of 119", x.ruler(i, 1), 241 + draws[i] % 119);
        }
    }

    private void daysOnEnd() {
        for (int need = 1; need <= 7; need++) {
            FirstAwake x = Checks.of("house " + need + " 10 0;house " + need + " 999 0;sleeper 0 300 0 0;sleeper 1 301 0 0;");
            for (int day = 1; day <= 2 * need + 1; day++) {
                x.dawn(1);
                due("need " + need + ", day " + day + ": days on end", x.house(0, 3), day % need);
                due("need " + need + ", day " + day + ": done", x.house(0, 4), day / need);
                due("need " + need + ", day " + day + ": had", x.told(9), 10 * (day / need));
            }
            int done = x.house(0, 4);
            x.law(1);
            x.dawn(need);
            due("need " + need + ": thrown back to none", x.house(0, 3), 0);
            due("need " + need + ": what was done stays", x.house(0, 4), done);
            due("need " + need + ": the other's is done", x.house(1, 4), 1);
            due("need " + need + ": and begins anew", x.house(1, 3), 0);
            due("need " + need + ": both are had", x.told(9), 10 * done + 999);
        }
        FirstAwake y = Checks.of("house 7 10 0;house 1 0 0;sleeper 0 300 0 0;sleeper 1 301 0 0;");
        y.dawn(6);
        y.law(1);
        y.dawn(1);
        y.law(0);
        y.dawn(6);
        due("six, another's day, six: not done", y.house(0, 4), 0);
        due("six on end", y.house(0, 3), 6);
        y.dawn(1);
        due("the seventh", y.house(0, 4), 1);
    }

    private void keptRulers() {
        FirstAwake x = Checks.of("house 1 2 0;sleeper 0 300 0 0;sleeper 0 301 0 0;");
        x.dawn(99);
        x.dawn(99);
        x.law(1);
        due("over the 200th day", x.dawn(3), 1);
        due("201 days", x.told(3), 201);
        due("200 rulers", x.told(8), 200);
        due("day 198", x.ruler(197, 0), 0);
        due("day 199", x.ruler(198, 0), 1);
        due("day 200", x.ruler(199, 0), 1);
        due("its minute", x.ruler(199, 1), 301);
        due("day 201", x.ruler(200, 0), NONE);
        due("its minute", x.ruler(200, 1), NONE);
        x.law(0);
        x.dawn(99);
        due("they stay", x.ruler(199, 0), 1);
        due("so does the first", x.ruler(0, 0), 0);
        due("300 days", x.told(3), 300);
        due("works go on behind them", x.house(0, 4), 300);
        due("and worth", x.told(9), 600);
        FirstAwake y = Checks.of(ALONE);
        due("no day: none", y.ruler(0, 0), NONE);
        y.dawn(1);
        due("one day: the first", y.ruler(0, 0), 0);
        due("its minute", y.ruler(0, 1), 300);
        due("no second", y.ruler(1, 0), NONE);
    }

    private void asManyDaysAsThereMayBe() {
        FirstAwake x = new FirstAwake();
        Checks.feedText(x, ALONE);
        x.valley();
        int calls = (ALONE.length() + 7) / 8 + 1;
        int days = 0;
        for (; calls < 509; calls++) {
            x.dawn(99);
            days += 99;
        }
        due("days", x.told(3), days);
        due("worth", x.told(9), 999 * days);
        due("done, by the 512th call", x.house(0, 4), days);
    }

    // ---- 3 odds

    private void theOdds() {
        byLot();
        tensWithinTheBed();
        gainsAreCut();
        restsAtBothEnds();
        twentyRounds();
        loudestNoise();
        lastDayOfLikely();
        partsOfAHundred();
    }

    private void byLot() {
        for (int sleepers = 1; sleepers <= 8; sleepers++) {
            FirstAwake x = Checks.of("house 1 1 0;house 1 1 0;" + "sleeper 1 300 59 0;".repeat(sleepers));
            x.law(2);
            for (int s = 0; s < sleepers; s++) {
                due("by lot of " + sleepers, x.odds(s), BILLION / sleepers);
            }
            due("by lot, one too many", x.odds(sleepers), UNKNOWN);
            due("by lot together", x.together(3), BILLION / sleepers * sleepers);
        }
    }

    /** House 1 rules by a shift of k or more, and by none below. */
    private static FirstAwake needing(int k, int worth, int bed, int span) {
        return Checks.of("house 1 0 0;house 1 " + worth + " " + bed + ";sleeper 0 200 0 0;sleeper 1 " + (199 + k - span) + " " + span + " 0;");
    }

    private void tensWithinTheBed() {
        for (int k = 10; k <= 60; k += 10) {
            FirstAwake x = needing(k, 999, k, 0);
            due("the bed is " + k, x.best(1, 0), k);
            due("it rules", x.best(1, 1), BILLION);
            FirstAwake y = needing(k, 999, k - 1, 0);
            due("the bed is below " + k, y.best(1, 0), 0);
            due("it does not rule", y.best(1, 1), 0);
            if (k < 60) {
                FirstAwake z = needing(k + 1, 999, k + 9, 0);
                due("not by tens", z.best(1, 1), 0);
            }
        }
        due("beyond the greatest bed", needing(61, 999, 60, 0).best(1, 1), 0);
        due("no bed", needing(0, 999, 0, 0).best(1, 1), BILLION);
        due("worth 0", needing(10, 0, 60, 0).best(1, 0), 0);
        FirstAwake none = Checks.of("house 1 1 0;house 1 1 0;sleeper 0 300 0 0;");
        due("no sleepers in it", none.best(1, 0), NOT);
        due("no such what, no sleepers", none.best(1, 2), OUTSIDE);
    }

    private void gainsAreCut() {
        due("10 of 10 is no gain: the least shift", needing(10, 10, 60, 0).best(1, 0), 0);
        due("11 less 10 is one", needing(10, 11, 60, 0).best(1, 0), 10);
        due("60 of 60 is no gain", needing(60, 60, 60, 0).best(1, 0), 0);
        due("61 less 60 is one", needing(60, 61, 60, 0).best(1, 0), 60);
        // three minutes of 333333333 each: 11 times 999999999 of a billion is 10, cut
        due("10 after the cut", needing(10, 11, 60, 1).best(1, 0), 0);
        due("11 after the cut", needing(10, 12, 60, 1).best(1, 0), 10);
        due("the odds by it", needing(10, 12, 60, 1).best(1, 1), 999999999);
    }

    private void restsAtBothEnds() {
        FirstAwake x = needing(60, 999, 60, 0);
        due("one round", x.rests(NONE), 1);
        due("to the greatest bed", x.rests(1), 60);
        x.shift(1, 60);
        due("no round changes anything", x.rests(NONE), 0);
        due("it stays so", x.rests(1), 60);
        FirstAwake y = needing(10, 10, 60, 0);
        y.shift(1, 60);
        due("back to none", y.rests(NONE), 1);
        due("back to none", y.rests(1), 0);
        due("the shift stays", y.sleeper(1, 4), 60);
        FirstAwake z = Checks.of("house 1 9 9;house 1 0 0;house 1 9 9;house 1 999 60;house 1 9 9;"
            + "sleeper 3 300 0 0;sleeper 1 259 0 0;" + "sleeper 3 400 0 0;".repeat(6));
        due("eight sleepers: one round", z.rests(NONE), 1);
        due("of those of a house alike", z.rests(3), 50);
        due("of the other", z.rests(1), 0);
        due("five houses, the first without sleepers", z.rests(0), 0);
        due("and the last", z.rests(4), 0);
        due("nobody is shifted by it", z.sleeper(7, 4), 0);
    }

    /**
     * A valley, found by a long search, whose rounds change something twenty times before they rest:
     * one too many. A round later the twentieth is the one that changes nothing, and so on.
     */
    private void twentyRounds() {
        FirstAwake x = Checks.of("house 1 158 60;house 1 66 60;house 1 101 60;house 1 71 60;house 1 121 60;sleeper 1 278 0 0;"
            + "sleeper 3 287 6 0;sleeper 0 325 57 0;sleeper 4 293 59 0;sleeper 0 392 10 0;sleeper 3 286 2 0;sleeper 2 304 43 0;");
        int[] homes = {1, 3, 0, 4, 0, 3, 2};
        int[] shifts = {0, 0, 30, 10, 20};
        for (int s = 0; s < homes.length; s++) {
            x.shift(s, shifts[homes[s]]);
        }
        due("twenty rounds change something: never", x.rests(NONE), NONE);
        due("never, house 2", x.rests(2), NONE);
        for (int left = 19; left >= 0; left--) {
            playRound(x, homes);
            due(left + " rounds are left", x.rests(NONE), left);
            due("house 2 with " + left + " left", x.rests(2), 60);
            due("house 3 with " + left + " left", x.rests(3), 0);
        }
        due("they rest", x.sleeper(6, 4), 60);
    }

    /** A round by hand, in a valley of five houses that all have sleepers. */
    private static void playRound(FirstAwake x, int[] homes) {
        for (int h = 0; h < 5; h++) {
            int k = x.best(h, 0);
            for (int s = 0; s < homes.length; s++) {
                if (homes[s] == h) {
                    x.shift(s, k);
                }
            }
        }
    }

    private void loudestNoise() {
        for (int light = 0; light <= 9; light++) {
            FirstAwake x = Checks.of("house 1 1 0;house 1 1 0;sleeper 0 200 0 0;sleeper 1 600 59 " + light + ";");
            x.law(1);
            due("light " + light + ": M", x.loud(0, 0), 60);
            due("light " + light + ": the least N", x.loud(0, 1), light == 9 ? 0 : light + 1);
            due("light " + light + ": the odds", x.loud(0, 2), light == 9 ? 0 : BILLION);
        }
        FirstAwake y = Checks.of("house 1 1 60;house 1 1 60;sleeper 1 60 0 0;sleeper 0 60 0 0;");
        y.law(1);
        due("who wakes at 60 is not woken by 60", y.loud(0, 2), 0);
        due("no noise helps: the least", y.loud(0, 1), 0);
        y.shift(0, 1);
        due("who wakes ahead of it need not be", y.loud(0, 2), BILLION);
        FirstAwake z = Checks.of("house 1 1 60;house 1 1 60;sleeper 0 60 0 0;sleeper 1 61 0 0;");
        z.law(1);
        due("who wakes at 61 is woken by 60", z.loud(0, 2), BILLION);
        due("by loudness 1", z.loud(0, 1), 1);
    }

    /** What the work of one day's need is done by day n, by odds of a day. */
    private static long doneBy(int n, long odds) {
        long left = BILLION;
        for (int day = 0; day < n; day++) {
            left -= left * odds / BILLION;
        }
        return BILLION - left;
    }

    private void lastDayOfLikely() {
        int onTheLast = 0;
        int aDayLate = 0;
        for (int span = 1; span <= 59; span++) {
            for (int apart = 1; apart <= 2 * span; apart += 3) {
                FirstAwake x = Checks.of("house 1 1 0;house 1 1 0;sleeper 0 300 " + span + " 0;sleeper 1 " + (300 + apart) + " " + span + " 0;");
                long odds = x.together(2);
                int full = (int) (doneBy(60, odds) * 100 / BILLION);
                int later = (int) (doneBy(61, odds) * 100 / BILLION);
                if (full >= 1 && doneBy(59, odds) * 100 / BILLION < full) {
                    due("on the 60th day, q " + full, x.likely(1, full), 60);
                    onTheLast++;
                }
                if (later > full) {
                    due("on the 61st day, q " + later, x.likely(1, later), NONE);
                    due("work by the 60th", x.work(1, 60), doneBy(60, odds));
                    aDayLate++;
                }
            }
        }
        checks.that("the 60th day is there", onTheLast > 10);
        checks.that("the 61st day is there", aDayLate > 10);
    }

    private void partsOfAHundred() {
        FirstAwake x = Checks.of(ALONE);
        due("all of it by day 1", x.likely(0, 100), 1);
        due("1 by day 1", x.likely(0, 1), 1);
        for (int sleepers : new int[] {2, 4, 5}) {
            FirstAwake y = Checks.of("house 1 1 0;house 1 1 0;sleeper 1 300 0 0;" + "sleeper 0 300 0 0;".repeat(sleepers - 1));
            y.law(2);
            due("just so many, 1 of " + sleepers, y.likely(1, 100 / sleepers), 1);
            due("one more, 1 of " + sleepers, y.likely(1, 100 / sleepers + 1), 2);
        }
        FirstAwake z = Checks.of("house 7 1 0;house 1 1 0;sleeper 0 300 0 0;sleeper 1 301 0 0;");
        for (int day = 0; day < 7; day++) {
            due("behind " + day + " days, all of it", z.likely(0, 100), 7 - day);
            due("behind " + day + " days, a day ahead of it", day == 6 ? 0 : z.work(0, 6 - day), 0);
            due("behind " + day + " days, by it", z.work(0, 7 - day), BILLION);
            z.dawn(1);
        }
        due("done, and from none again", z.likely(0, 100), 7);
        due("odds of 0: never", z.likely(1, 1), NONE);
        due("odds of 0", z.work(1, 60), 0);
    }

    // ---- 4 told rulers

    private void theToldRulers() {
        fortyTold();
        minutesAroundTheTruth();
        shiftItHas();
    }

    private void fortyTold() {
        FirstAwake x = Checks.of("house 1 1 60;sleeper 0 300 5 0;");
        for (int i = 1; i <= 39; i++) {
            due("told", x.tell(0, 295), i);
        }
        due("the fortieth is a lie", x.tell(0, 294), 40);
        due("one more", x.tell(0, 0), FULL);
        due("the last of all", x.lies(), 39);
        due("no shift fits 295 and 294 but these", x.fits(0, NONE), 10);
        due("the first", x.fits(0, 0), 1);
        due("the last", x.fits(0, 9), 10);
        due("all are forgotten", x.forget(), 40);
        due("one again", x.tell(0, 999), 1);
        due("minute 999", x.lies(), 0);
        due("fits none", x.fits(0, NONE), 0);
        due("minute 0", x.tell(0, 0), 2);
    }

    private void minutesAroundTheTruth() {
        // sleeper 1's minutes are 290 .. 310, sleeper 0's 295 .. 305, sleeper 2's 295 .. 305
        String text = "house 1 1 60;sleeper 0 300 5 0;sleeper 0 300 10 0;sleeper 0 300 5 0;";
        int[][] edges = {{289, 0}, {290, NONE}, {304, NONE}, {305, 0}, {306, 0}};
        for (int[] edge : edges) {
            FirstAwake x = Checks.of(text);
            x.tell(1, edge[0]);
            due("by the first at " + edge[0], x.lies(), edge[1]);
        }
        int[][] lastEdges = {{294, 0}, {295, 0}, {296, NONE}, {310, NONE}, {311, 0}};
        for (int[] edge : lastEdges) {
            FirstAwake x = Checks.of(text);
            x.law(1);
            x.tell(1, edge[0]);
            due("by the last at " + edge[0], x.lies(), edge[1]);
        }
        int[][] least = {{294, 0}, {295, NONE}, {305, NONE}, {306, 0}};
        for (int[] edge : least) {
            FirstAwake x = Checks.of(text);
            x.tell(0, edge[0]);
            due("the least sleeper by the first at " + edge[0], x.lies(), edge[1]);
        }
        int[][] noisy = {{289, 0}, {290, NONE}, {299, NONE}, {300, 0}};
        for (int[] edge : noisy) {
            FirstAwake x = Checks.of("house 1 1 60;house 1 1 0;sleeper 0 300 5 9;sleeper 0 300 10 0;");
            x.noise(1, 299, 9);
            x.tell(1, edge[0]);
            due("with a noise at 299, at " + edge[0], x.lies(), edge[1]);
        }
    }

    private void shiftItHas() {
        FirstAwake x = Checks.of("house 1 1 60;sleeper 0 300 0 0;");
        for (int has : new int[] {0, 1, 59, 60}) {
            x.shift(0, has);
            due("has " + has + ": how many", x.fits(0, NONE), 60);
            int[] fitting = new int[60];
            int[] want = new int[60];
            for (int i = 0; i < 60; i++) {
                fitting[i] = x.fits(0, i);
                want[i] = i < has ? i : i + 1;
            }
            checks.that("has " + has + ": all the others, rising", Arrays.equals(fitting, want));
            due("has " + has + ": no more", x.fits(0, 60), NONE);
        }
        x.tell(0, 240);
        x.shift(0, 60);
        due("it has the one that fits", x.fits(0, NONE), 0);
        x.shift(0, 59);
        due("it has another", x.fits(0, NONE), 1);
        due("60 fits", x.fits(0, 0), 60);
        due("and no other", x.fits(0, 1), NONE);
        x.forget();
        x.tell(0, 239);
        due("61 is no shift", x.fits(0, NONE), 0);
        x.forget();
        x.tell(0, 300);
        due("0 fits", x.fits(0, 0), 0);
        x.forget();
        x.tell(0, 301);
        due("-1 is no shift", x.fits(0, NONE), 0);
    }

    // ---- 4 images

    private void theImages() {
        imagesOfAnEmptyValley();
        imagesOfFullRulers();
        imagesThatAreGone();
    }

    private void imagesOfAnEmptyValley() {
        FirstAwake x = new FirstAwake();
        due("nothing kept", x.goBack(0), NOT);
        due("nothing kept", x.goBack(1), NOT);
        x.law(2);
        x.seed(7);
        due("kept", x.keep(1), 1);
        due("the other is not", x.goBack(0), NOT);
        x.law(0);
        x.seed(8);
        due("back", x.goBack(1), 1);
        due("the law", x.told(4), 2);
        due("the seed", x.seed(7), 7);
        due("an empty text", x.valley(), 0);
        due("it is gone", x.goBack(1), NOT);
        due("law 0 again", x.told(4), 0);
        due("the seed stays", x.seed(0), 7);
    }

    private void imagesOfFullRulers() {
        FirstAwake x = Checks.of("house 1 1 0;sleeper 0 300 0 0;sleeper 0 301 0 0;");
        x.dawn(99);
        x.dawn(99);
        x.keep(0);
        x.law(1);
        x.dawn(4);
        x.keep(1);
        due("full", x.told(8), 200);
        x.goBack(0);
        due("198 again", x.told(8), 198);
        due("the 199th is not there", x.ruler(198, 0), NONE);
        due("law 0 again", x.dawn(1), 0);
        due("another 199th", x.ruler(198, 0), 0);
        x.goBack(1);
        due("full again", x.told(8), 200);
        due("day 202", x.told(3), 202);
        due("its own 199th", x.ruler(198, 0), 1);
        due("its own 200th", x.ruler(199, 1), 301);
        due("its own 198th", x.ruler(197, 0), 0);
        x.dawn(1);
        due("full still", x.told(8), 200);
        due("and the day goes on", x.told(3), 203);
    }

    private void imagesThatAreGone() {
        FirstAwake x = Checks.of(ALONE);
        x.keep(0);
        x.keep(1);
        Checks.feedText(x, ALONE);
        x.valley();
        due("image 0 is gone", x.goBack(0), NOT);
        due("image 1 is gone", x.goBack(1), NOT);
        x.keep(1);
        due("image 0 is gone still", x.goBack(0), NOT);
        due("image 1 is kept anew", x.goBack(1), 1);
        x.dawn(3);
        due("it can be gone back to twice", x.goBack(1), 1);
        due("day 0", x.told(3), 0);
        due("an image that there is not", x.goBack(2), UNKNOWN);
        due("an image that there is not", x.goBack(-1), UNKNOWN);
    }
}
