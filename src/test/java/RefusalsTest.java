import java.util.ArrayList;
import java.util.List;
import java.util.function.ToIntFunction;

/**
 * Every refusal of every call, of several the first in the document's order, in valleys that are
 * new, empty, ordinary and full; and that what is refused changes nothing: all that a twin without
 * the refused call answers is answered alike, its images and its text as well.
 */
public final class RefusalsTest {
    private static final int NONE = -1, UNKNOWN = -1000000001, OUTSIDE = -1000000002, NOT = -1000000003, FULL = -1000000004;
    private static final int LOW = Integer.MIN_VALUE, HIGH = Integer.MAX_VALUE;

    /** Three houses, the last without sleepers; beds of 30, 0 and 60. */
    private static final String ORDINARY = "house 2 100 30;house 3 50 0;house 1 1 60;"
        + "sleeper 0 100 5 2;sleeper 1 103 4 5;sleeper 0 101 9 0;";
    private static final String FULL_VALLEY = "house 2 100 30;house 3 50 0;house 7 999 60;house 1 0 0;house 1 5 60;"
        + "sleeper 0 100 5 2;sleeper 1 103 4 5;sleeper 0 101 9 0;sleeper 2 100 9 9;"
        + "sleeper 4 101 8 8;sleeper 4 102 7 7;sleeper 3 103 6 6;sleeper 2 104 5 5;";

    /** A call that is refused, and with what. */
    private record Refused(String name, ToIntFunction<FirstAwake> call, int answer) { }

    /** How an object is brought into a state, by calls on a new one. */
    private interface Recipe {
        void make(FirstAwake x);
    }

    private final Checks checks = new Checks();
    private final List<Refused> list = new ArrayList<>();

    public static void main(String[] args) {
        RefusalsTest test = new RefusalsTest();
        test.ofANewObject();
        test.ofHousesAlone();
        test.ofAnOrdinaryValley();
        test.ofAFullOne();
        test.ofFaultyTexts();
        test.checks.finish("RefusalsTest");
    }

    // ---- the states

    private void ofANewObject() {
        Recipe recipe = x -> { };
        knownToNoValley(0, 0);
        ownBounds();
        onlyNow("dawn(1)", x -> x.dawn(1), NOT);
        onlyNow("dawn(99)", x -> x.dawn(99), NOT);
        onlyNow("goBack(0)", x -> x.goBack(0), NOT);
        onlyNow("goBack(1)", x -> x.goBack(1), NOT);
        askAll("new", recipe);
    }

    private void ofHousesAlone() {
        Recipe recipe = x -> {
            Checks.feedText(x, "house 2 100 30;house 1 1 1;");
            x.valley();
            x.noise(1, 100, 3);
            x.law(2);
            x.keep(1);
            x.hush();
            Checks.feedText(x, "house 1");
        };
        knownToNoValley(2, 0);
        ownBounds();
        boundsOfHouse(0);
        boundsOfHouse(1);
        for (int h = 0; h < 2; h++) {
            withoutSleepers(h);
        }
        onlyNow("dawn(1)", x -> x.dawn(1), NOT);
        onlyNow("dawn(99)", x -> x.dawn(99), NOT);
        onlyNow("goBack(0)", x -> x.goBack(0), NOT);
        onlyNow("lies()", x -> x.lies(), NOT);
        askAll("houses alone", recipe);
    }

    private void ofAnOrdinaryValley() {
        Recipe recipe = x -> {
            Checks.feedText(x, ORDINARY);
            x.valley();
            x.seed(99);
            x.shift(0, 30);
            x.dawn(5);
            x.keep(0);
            x.noise(2, 98, 3);
            x.law(1);
            x.shift(2, 7);
            x.dawn(4);
            x.tell(0, 70);
            x.tell(2, 90);
            Checks.feedText(x, "house 1 2 3;sl");
        };
        knownToNoValley(3, 3);
        ownBounds();
        for (int h = 0; h < 3; h++) {
            boundsOfHouse(h);
        }
        boundsOfSleeper(0, 30);
        boundsOfSleeper(1, 0);
        boundsOfSleeper(2, 30);
        withoutSleepers(2);
        onlyNow("goBack(1)", x -> x.goBack(1), NOT);
        askAll("ordinary", recipe);
    }

    private void ofAFullOne() {
        String text = " ".repeat(388) + "house 7 7 7;";
        Recipe recipe = x -> {
            Checks.feedText(x, FULL_VALLEY);
            x.valley();
            x.seed(HIGH);
            x.shift(3, 60);
            x.dawn(99);
            x.keep(0);
            x.noise(0, 95, 9);
            x.dawn(99);
            x.dawn(9);
            for (int i = 0; i < 40; i++) {
                x.tell(i % 8, 90 + i);
            }
            x.keep(1);
            x.law(2);
            x.dawn(3);
            Checks.feedText(x, text);
        };
        knownToNoValley(5, 8);
        ownBounds();
        for (int h = 0; h < 5; h++) {
            boundsOfHouse(h);
        }
        int[] beds = {30, 0, 30, 60, 60, 60, 0, 60};
        for (int s = 0; s < 8; s++) {
            boundsOfSleeper(s, beds[s]);
            int who = s;
            onlyNow("tell(" + s + ", 0)", x -> x.tell(who, 0), FULL);
            onlyNow("tell(" + s + ", 999)", x -> x.tell(who, 999), FULL);
            for (int i : new int[] {LOW, -2, NONE, 0, 60, HIGH}) {
                onlyNow("fits(" + s + ", " + i + ")", x -> x.fits(who, i), NOT);
            }
        }
        for (int n = 1; n <= 8; n++) {
            int count = n;
            onlyNow("feed(" + n + ")", x -> x.feed(count, -1L), FULL);
        }
        onlyNow("lies()", x -> x.lies(), NOT);
        askAll("full", recipe);
    }

    /** A faulty text is no valley: all is as it was, but the text is used up and the fault is told. */
    private void ofFaultyTexts() {
        Recipe recipe = x -> {
            Checks.feedText(x, ORDINARY);
            x.valley();
            x.seed(99);
            x.dawn(5);
            x.keep(0);
            x.noise(2, 98, 3);
            x.law(1);
            x.shift(2, 7);
            x.dawn(4);
            x.keep(1);
            x.tell(0, 70);
        };
        String[] texts = {"?", "house 8 1 1;", "house 1 1 1;".repeat(6), FULL_VALLEY + "house", FULL_VALLEY + "sleeper 0 60 0"};
        int[] answers = {-11, -12, -13, -13, -13};
        Sight want = new Sight();
        seeBesideTheText(made(recipe), want);
        for (int i = 0; i < texts.length; i++) {
            FirstAwake x = made(recipe);
            Checks.feedText(x, texts[i]);
            checks.due("valley of '" + texts[i] + "'", x.valley(), answers[i]);
            checks.due("bytes behind it", x.told(2), 0);
            Sight got = new Sight();
            seeBesideTheText(x, got);
            checks.that("all is as it was behind '" + texts[i] + "'", got.text.toString().equals(want.text.toString()));
        }
    }

    // ---- the refused calls

    private void onlyNow(String name, ToIntFunction<FirstAwake> call, int answer) {
        list.add(new Refused(name, call, answer));
    }

    /** Houses, sleepers and images that there are not: ahead of all else that is wrong. */
    private void knownToNoValley(int houses, int sleepers) {
        for (int h : new int[] {LOW, -2, NONE, houses, 5, 31, 32, HIGH}) {
            for (int other : new int[] {LOW, NONE, 0, 1, 7, 61, 701, HIGH}) {
                onlyNow("house(" + h + ", " + other + ")", x -> x.house(h, other), UNKNOWN);
                onlyNow("noise(" + h + ", " + other + ", 0)", x -> x.noise(h, other, 0), UNKNOWN);
                onlyNow("noise(" + h + ", 0, " + other + ")", x -> x.noise(h, 0, other), UNKNOWN);
                onlyNow("best(" + h + ", " + other + ")", x -> x.best(h, other), UNKNOWN);
                onlyNow("loud(" + h + ", " + other + ")", x -> x.loud(h, other), UNKNOWN);
                onlyNow("work(" + h + ", " + other + ")", x -> x.work(h, other), UNKNOWN);
                onlyNow("likely(" + h + ", " + other + ")", x -> x.likely(h, other), UNKNOWN);
            }
            if (h != NONE) {
                onlyNow("rests(" + h + ")", x -> x.rests(h), UNKNOWN);
            }
        }
        for (int s : new int[] {LOW, -2, NONE, sleepers, 8, 31, 32, HIGH}) {
            for (int other : new int[] {LOW, NONE, 0, 1, 8, 61, 1000, HIGH}) {
                onlyNow("sleeper(" + s + ", " + other + ")", x -> x.sleeper(s, other), UNKNOWN);
                onlyNow("shift(" + s + ", " + other + ")", x -> x.shift(s, other), UNKNOWN);
                onlyNow("tell(" + s + ", " + other + ")", x -> x.tell(s, other), UNKNOWN);
                onlyNow("fits(" + s + ", " + other + ")", x -> x.fits(s, other), UNKNOWN);
            }
            onlyNow("odds(" + s + ")", x -> x.odds(s), UNKNOWN);
        }
        for (int bit = houses; bit < 32; bit++) {
            int set = 1 << bit;
            onlyNow("together(" + set + ")", x -> x.together(set), UNKNOWN);
            onlyNow("together(" + (set | (1 << houses) - 1) + ")", x -> x.together(set | (1 << houses) - 1), UNKNOWN);
        }
        onlyNow("together(-1)", x -> x.together(-1), UNKNOWN);
        for (int i : new int[] {LOW, -2, NONE, 2, 3, HIGH}) {
            onlyNow("keep(" + i + ")", x -> x.keep(i), UNKNOWN);
            onlyNow("goBack(" + i + ")", x -> x.goBack(i), UNKNOWN);
        }
    }

    /** Bounds that no valley moves. */
    private void ownBounds() {
        for (int n : new int[] {LOW, NONE, 0, 9, HIGH}) {
            onlyNow("feed(" + n + ")", x -> x.feed(n, 0x2020202020202020L), OUTSIDE);
        }
        for (int what : new int[] {LOW, NONE, 11, HIGH}) {
            onlyNow("told(" + what + ")", x -> x.told(what), OUTSIDE);
        }
        for (int v : new int[] {LOW, NONE, 3, HIGH}) {
            onlyNow("law(" + v + ")", x -> x.law(v), OUTSIDE);
        }
        for (int n : new int[] {LOW, NONE, 0, 100, HIGH}) {
            onlyNow("dawn(" + n + ")", x -> x.dawn(n), OUTSIDE);
        }
        for (int i : new int[] {LOW, NONE, 0, 199, 200, HIGH}) {
            for (int what : new int[] {LOW, NONE, 2, HIGH}) {
                onlyNow("ruler(" + i + ", " + what + ")", x -> x.ruler(i, what), OUTSIDE);
            }
        }
        for (int v : new int[] {LOW, -2, -1}) {
            onlyNow("seed(" + v + ")", x -> x.seed(v), OUTSIDE);
        }
    }

    private void boundsOfHouse(int h) {
        for (int what : new int[] {LOW, NONE, 6, HIGH}) {
            onlyNow("house(" + h + ", " + what + ")", x -> x.house(h, what), OUTSIDE);
        }
        for (int m : new int[] {LOW, NONE, 701, HIGH}) {
            onlyNow("noise(" + h + ", " + m + ", 0)", x -> x.noise(h, m, 0), OUTSIDE);
            onlyNow("noise(" + h + ", " + m + ", 10)", x -> x.noise(h, m, 10), OUTSIDE);
        }
        for (int n : new int[] {LOW, NONE, 10, HIGH}) {
            onlyNow("noise(" + h + ", 0, " + n + ")", x -> x.noise(h, 0, n), OUTSIDE);
            onlyNow("noise(" + h + ", 700, " + n + ")", x -> x.noise(h, 700, n), OUTSIDE);
        }
        for (int what : new int[] {LOW, NONE, 2, HIGH}) {
            onlyNow("best(" + h + ", " + what + ")", x -> x.best(h, what), OUTSIDE);
        }
        for (int what : new int[] {LOW, NONE, 3, HIGH}) {
            onlyNow("loud(" + h + ", " + what + ")", x -> x.loud(h, what), OUTSIDE);
        }
        for (int n : new int[] {LOW, NONE, 0, 61, HIGH}) {
            onlyNow("work(" + h + ", " + n + ")", x -> x.work(h, n), OUTSIDE);
        }
        for (int q : new int[] {LOW, NONE, 0, 101, HIGH}) {
            onlyNow("likely(" + h + ", " + q + ")", x -> x.likely(h, q), OUTSIDE);
        }
    }

    private void boundsOfSleeper(int s, int bed) {
        for (int what : new int[] {LOW, NONE, 7, HIGH}) {
            onlyNow("sleeper(" + s + ", " + what + ")", x -> x.sleeper(s, what), OUTSIDE);
        }
        for (int k : new int[] {LOW, NONE, bed + 1, HIGH}) {
            onlyNow("shift(" + s + ", " + k + ")", x -> x.shift(s, k), OUTSIDE);
        }
        for (int minute : new int[] {LOW, NONE, 1000, HIGH}) {
            onlyNow("tell(" + s + ", " + minute + ")", x -> x.tell(s, minute), OUTSIDE);
        }
    }

    private void withoutSleepers(int h) {
        onlyNow("best(" + h + ", 0)", x -> x.best(h, 0), NOT);
        onlyNow("best(" + h + ", 1)", x -> x.best(h, 1), NOT);
    }

    // ---- what is seen of an object

    private void askAll(String state, Recipe recipe) {
        String want = seenOfAll(made(recipe));
        for (Refused refused : list) {
            FirstAwake x = made(recipe);
            checks.due(state + ": " + refused.name, refused.call.applyAsInt(x), refused.answer);
            checks.that(state + ": " + refused.name + " changes nothing", seenOfAll(x).equals(want));
        }
        list.clear();
    }

    private static FirstAwake made(Recipe recipe) {
        FirstAwake x = new FirstAwake();
        recipe.make(x);
        return x;
    }

    /** The text can be seen only by reading it, so it comes behind all else. */
    private static String seenOfAll(FirstAwake x) {
        Sight sight = new Sight();
        sight.add(x.told(2)).add(x.fault());
        seeBesideTheText(x, sight);
        sight.add(x.valley()).add(x.fault()).add(x.told(0)).add(x.house(0, 0)).add(x.house(0, 1)).add(x.house(0, 2));
        return sight.text.toString();
    }

    private static void seeBesideTheText(FirstAwake x, Sight sight) {
        int houses = x.told(0);
        int sleepers = x.told(1);
        sight.add(houses).add(sleepers).add(x.told(10));
        for (int h = 0; h < houses; h++) {
            sight.add(x.house(h, 0)).add(x.house(h, 1)).add(x.house(h, 2)).add(x.house(h, 5));
        }
        seeCourse(x, sight);
        seeWords(x, sight);
        for (int i = 0; i < 2; i++) {
            sight.add(x.goBack(i));
            seeCourse(x, sight);
        }
    }

    private static void seeCourse(FirstAwake x, Sight sight) {
        for (int what = 3; what <= 9; what++) {
            sight.add(x.told(what));
        }
        for (int h = 0; h < x.told(0); h++) {
            sight.add(x.house(h, 3)).add(x.house(h, 4));
        }
        for (int s = 0; s < x.told(1); s++) {
            sight.add(x.sleeper(s, 4)).add(x.sleeper(s, 6));
        }
        int kept = x.told(8);
        for (int i : new int[] {0, kept - 1, kept}) {
            sight.add(x.ruler(i, 0)).add(x.ruler(i, 1));
        }
        int seed = x.seed(0);
        sight.add(seed);
        x.seed(seed);
    }

    /** By law 2 nobody judges, so it is law 0 for as long. */
    private static void seeWords(FirstAwake x, Sight sight) {
        int law = x.law(0);
        sight.add(x.lies());
        for (int s = 0; s < x.told(1); s++) {
            sight.add(x.fits(s, NONE));
        }
        x.law(law);
    }

    private static final class Sight {
        final StringBuilder text = new StringBuilder();

        Sight add(int answer) {
            text.append(answer).append(' ');
            return this;
        }
    }
}
