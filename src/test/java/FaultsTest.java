import java.util.ArrayList;
import java.util.Random;

/** Promises 3 and 4: the first fault of a text, its number and its byte. */
public final class FaultsTest {
    private static final String HOUSE = "house 1 1 1;", SLEEPER = "sleeper 0 60 0 0;";
    private static final int DRAWN = 30000;

    private final Checks checks = new Checks();

    public static void main(String[] args) {
        FaultsTest test = new FaultsTest();
        test.goodTexts();
        test.misplaced();
        test.numbers();
        test.tooMany();
        test.leastOfSeveral();
        test.laterTexts();
        test.drawnTexts();
        test.checks.finish("FaultsTest");
    }

    private void good(String text, int sleepers) {
        ask(text, sleepers, -1);
    }

    private void faulty(String text, int number, int at) {
        ask(text, -10 - number, at);
    }

    private void ask(String text, int answer, int at) {
        FirstAwake x = new FirstAwake();
        Checks.feedText(x, text);
        checks.due("valley of '" + text + "'", x.valley(), answer);
        checks.due("fault of '" + text + "'", x.fault(), at);
        checks.due("bytes left of '" + text + "'", x.told(2), 0);
    }

    private void goodTexts() {
        good("", 0);
        good("   ", 0);
        good(HOUSE, 0);
        good(HOUSE + SLEEPER, 1);
        good("house1 1 1;sleeper0 60 0 0;", 1);
        good("  house  1   1 1  ;  sleeper 0  60 0 0 ;  ", 1);
        good("house 001 000 060;sleeper 000 060 059 009;", 1);
        good("house 7 999 60;sleeper 0 600 59 9;", 1);
        good("house 1 0 0;sleeper 0 60 0 0;", 1);
        good(HOUSE.repeat(5), 0);
        good(HOUSE + SLEEPER.repeat(8), 8);
        good(HOUSE + SLEEPER + HOUSE + "sleeper 1 60 0 0;", 2);
        good(HOUSE + " ".repeat(388), 0);
    }

    private void misplaced() {
        faulty("x", 1, 0);
        faulty("  hous 1 1 1;", 1, 2);
        faulty("houses 1 1 1;", 1, 0);
        faulty("housesleeper", 1, 0);
        faulty("housea 1 1 1;", 1, 0);
        faulty("housez 1 1 1;", 1, 0);
        faulty("house` 1 1 1;", 1, 5);
        faulty("house{ 1 1 1;", 1, 5);
        faulty("house/1 1 1;", 1, 5);
        faulty("house:1 1 1;", 1, 5);
        faulty("hou se 1 1 1;", 1, 0);
        faulty("House 1 1 1;", 1, 0);
        faulty("1 1 1;", 1, 0);
        faulty("1234;", 1, 0);
        faulty(";", 1, 0);
        faulty(HOUSE + ";", 1, 12);
        faulty("house", 1, 5);
        faulty("house   ", 1, 8);
        faulty("house 1", 1, 7);
        faulty("house 1 1 1", 1, 11);
        faulty("house 1 1 1  ", 1, 13);
        faulty("house;", 1, 5);
        faulty("house 1;", 1, 7);
        faulty("house 1 1;", 1, 9);
        faulty("house 1 1 1 1;", 1, 12);
        faulty("house 1 1 1 1234;", 1, 12);
        faulty("house 1 1 1 house 1 1 1;", 1, 12);
        faulty("house 1 1 1sleeper 0 60 0 0;", 1, 11);
        faulty("house x 1 1;", 1, 6);
        faulty("house 1x 1 1;", 1, 7);
        faulty("house -1 1 1;", 1, 6);
        faulty("house\t1 1 1;", 1, 5);
        faulty("house 1 1 1;\n", 1, 12);
        faulty("house 1 1 1;\u0000", 1, 12);
        faulty("house 1 1 1;\u00e9", 1, 12);
        faulty("house 1 1 \u00ff;", 1, 10);
        faulty(HOUSE + "sleeper 0 60 0;", 1, 26);
        faulty(HOUSE + "sleeper 0 60 0 0 0;", 1, 29);
        faulty(HOUSE + "sleeper 0 60 0 0", 1, 28);
    }

    private void numbers() {
        faulty("house 0 1 1;", 2, 6);
        faulty("house 8 1 1;", 2, 6);
        faulty("house 1 1000 1;", 2, 8);
        faulty("house 1 0000 1;", 2, 8);
        faulty("house 0001 1 1;", 2, 6);
        faulty("house 1 1 61;", 2, 10);
        faulty("house 1 1 4294967297;", 2, 10);
        faulty("house " + "9".repeat(390), 2, 6);
        faulty("sleeper 0 60 0 0;", 2, 8);
        faulty(HOUSE + "sleeper 1 60 0 0;", 2, 20);
        faulty(HOUSE + "sleeper 5 60 0 0;" + HOUSE.repeat(4), 2, 20);
        faulty(HOUSE + "sleeper 0 59 0 0;", 2, 22);
        faulty(HOUSE + "sleeper 0 601 0 0;", 2, 22);
        faulty(HOUSE + "sleeper 0 60 60 0;", 2, 25);
        faulty(HOUSE + "sleeper 0 60 0 10;", 2, 27);
        faulty("house  8", 2, 7);
    }

    private void tooMany() {
        faulty(HOUSE.repeat(6), 3, 60);
        faulty(HOUSE.repeat(5) + " house", 3, 61);
        faulty(HOUSE + SLEEPER.repeat(9), 3, 12 + 8 * 17);
        faulty(HOUSE + SLEEPER.repeat(8) + "sleeper 9", 3, 12 + 8 * 17);
    }

    private void leastOfSeveral() {
        faulty("house 0 x", 2, 6);
        faulty("house 9999", 2, 6);
        faulty(HOUSE.repeat(5) + "hous", 1, 60);
        faulty(HOUSE.repeat(5) + "houses 1", 1, 60);
        faulty(HOUSE.repeat(5) + "house 0 0 0;", 3, 60);
        faulty("house 8 1000 1", 2, 6);
    }

    /** Bytes of an earlier text are none of this one. */
    private void laterTexts() {
        FirstAwake x = new FirstAwake();
        Checks.feedText(x, HOUSE + SLEEPER);
        checks.due("a longer text first", x.valley(), 1);
        Checks.feedText(x, "house 1 1 1");
        checks.due("no ';' in the later one", x.valley(), -11);
        checks.due("at its end", x.fault(), 11);
        Checks.feedText(x, "house 1 1");
        checks.due("no number in the later one", x.valley(), -11);
        checks.due("at its end", x.fault(), 9);
        Checks.feedText(x, "hous");
        checks.due("no whole word in the later one", x.valley(), -11);
        checks.due("at its first letter", x.fault(), 0);
        ask(" ".repeat(389) + "house 1 1 1", -11, 400);
        ask(" ".repeat(391) + "house 1 1", -11, 400);
        ask(" ".repeat(396) + "hous", -11, 396);
    }

    private void drawnTexts() {
        Random random = new Random(7);
        int[] seen = new int[4];
        for (int i = 0; i < DRAWN; i++) {
            String text = Texts.anyText(random);
            ArrayList<Model.Sleeper> sleepers = new ArrayList<>();
            Model.Fault fault = Model.read(text, new ArrayList<>(), sleepers);
            ask(text, fault == null ? sleepers.size() : -10 - fault.number(), fault == null ? -1 : fault.at());
            seen[fault == null ? 0 : fault.number()]++;
        }
        for (int number = 0; number < 4; number++) {
            checks.that("fault " + number + " is drawn often enough", seen[number] > 100);
        }
    }
}
