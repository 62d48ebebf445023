/** Each promise of the document by itself: ordinary inputs, edges, refusals and their order. */
public final class PromisesTest {
    private static final int NONE = -1, UNKNOWN = -1000000001, OUTSIDE = -1000000002, NOT = -1000000003, FULL = -1000000004;
    private static final int LOW = Integer.MIN_VALUE, HIGH = Integer.MAX_VALUE;
    private static final int BILLION = 1000000000;

    /** Two houses; sleepers 0 (of 0) and 1 (of 1) wake at 100 and 101, sharp. */
    private static final String PAIR = "house 2 100 30;house 3 50 20;sleeper 0 100 0 2;sleeper 1 101 0 5;";
    /** Two sleepers of two houses with the same three minutes. */
    private static final String EVEN = "house 1 10 0;house 2 10 60;sleeper 0 200 1 0;sleeper 1 200 1 0;";

    private final Checks checks = new Checks();

    public static void main(String[] args) {
        PromisesTest test = new PromisesTest();
        test.promise1();
        test.promise2();
        test.promise3();
        test.promise3WhatStays();
        test.promise4();
        test.promise5();
        test.promise6();
        test.promise7();
        test.promise8();
        test.promise9();
        test.promise10();
        test.promise11();
        test.promise12();
        test.promise12Draws();
        test.promise12Works();
        test.promise13();
        test.promise14();
        test.promise14Cuts();
        test.promise14Noise();
        test.promise15();
        test.promise16();
        test.promise17();
        test.promise17Rounds();
        test.promise17Never();
        test.promise18();
        test.promise19();
        test.promise20();
        test.promise21();
        test.promise22();
        test.promise23();
        test.promise24();
        test.promise25();
        test.promise26();
        test.promise27();
        test.promise27Rulers();
        test.fullValley();
        test.checks.finish("PromisesTest");
    }

    private void due(String call, long got, long want) {
        checks.due(call, got, want);
    }

    private void promise1() {
        FirstAwake x = new FirstAwake();
        int[] all = {0, 0, 0, 0, 0, NONE, NONE, NONE, 0, 0, 0};
        for (int what = 0; what < all.length; what++) {
            due("1: told(" + what + ") of a new object", x.told(what), all[what]);
        }
        due("1: fault()", x.fault(), NONE);
        due("1: house(0, 0)", x.house(0, 0), UNKNOWN);
        due("1: sleeper(0, 0)", x.sleeper(0, 0), UNKNOWN);
        due("1: odds(0)", x.odds(0), UNKNOWN);
        due("1: together(0)", x.together(0), 0);
        due("1: together(1)", x.together(1), UNKNOWN);
        due("1: rests(NONE)", x.rests(NONE), 0);
        due("1: rests(0)", x.rests(0), UNKNOWN);
        due("1: seed(0)", x.seed(0), 0);
        due("1: goBack(0)", x.goBack(0), NOT);
        due("1: ruler(0, 0)", x.ruler(0, 0), NONE);
        due("1: forget()", x.forget(), 0);
        due("1: lies()", x.lies(), NONE);
    }

    private void promise2() {
        FirstAwake x = new FirstAwake();
        for (int n : new int[] {LOW, -1, 0, 9, HIGH}) {
            due("2: feed(" + n + ")", x.feed(n, 0), OUTSIDE);
        }
        due("2: nothing came", x.told(2), 0);
        due("2: the lowest five", x.feed(5, 0x787878686f757365L), 5);
        due("2: higher bytes are left out", x.feed(2, 0x7878787878782031L), 7);
        due("2: one byte", x.feed(1, 0x20), 8);
        due("2: eight, the highest first", x.feed(8, 0x32203b2020202020L), 16);
        due("2: what was fed lacks a number", x.valley(), -11);
        due("2: at the ';'", x.fault(), 10);
        FirstAwake y = new FirstAwake();
        for (int i = 1; i <= 49; i++) {
            due("2: eights", y.feed(8, 0x2020202020202020L), 8 * i);
        }
        due("2: 393", y.feed(1, 32), 393);
        due("2: eight are too many", y.feed(8, 0x2020202020202020L), FULL);
        due("2: OUTSIDE ahead of FULL", y.feed(9, 0), OUTSIDE);
        due("2: nothing came of it", y.told(2), 393);
        due("2: 400", y.feed(7, 0x20202020202020L), 400);
        due("2: full", y.feed(1, 32), FULL);
        due("2: OUTSIDE ahead of FULL when full", y.feed(0, 32), OUTSIDE);
        due("2: a full text is read", y.valley(), 0);
        due("2: and there is room again", y.feed(1, 32), 1);
    }

    private void promise3() {
        FirstAwake x = Checks.of(PAIR);
        due("3: the text is empty", x.told(2), 0);
        x.shift(0, 5);
        x.noise(0, 90, 9);
        x.law(1);
        x.seed(77);
        x.dawn(9);
        x.tell(0, 10);
        x.keep(0);
        x.keep(1);
        int seed = x.seed(1234);
        checks.that("3: dawns drew", seed != 77);
        Checks.feedText(x, EVEN);
        due("3: sleepers", x.valley(), 2);
        int[] all = {2, 2, 0, 0, 0, NONE, NONE, NONE, 0, 0, 0};
        for (int what = 0; what < all.length; what++) {
            due("3: told(" + what + ") anew", x.told(what), all[what]);
        }
        due("3: nobody is shifted", x.sleeper(0, 4), 0);
        due("3: minutes are new", x.sleeper(0, 5), 199);
        due("3: no days on end", x.house(0, 3) + x.house(1, 3), 0);
        due("3: nothing done", x.house(0, 4) + x.house(1, 4), 0);
        due("3: image 0 is gone", x.goBack(0), NOT);
        due("3: image 1 is gone", x.goBack(1), NOT);
        due("3: no ruler", x.ruler(0, 0), NONE);
        due("3: the seed stays", x.seed(0), 1234);
        due("3: an empty text is a valley", x.valley(), 0);
        due("3: without houses", x.told(0), 0);
        due("3: without sleepers", x.dawn(1), NOT);
    }

    private void promise3WhatStays() {
        FirstAwake x = Checks.of(PAIR);
        x.shift(0, 5);
        x.noise(0, 90, 9);
        x.law(1);
        x.dawn(2);
        x.tell(0, 10);
        x.keep(1);
        Checks.feedText(x, "house 1 1 1;sleeper 0 70 1 1;house 9 9 9;");
        due("3: a fault", x.valley(), -12);
        due("3: its byte", x.fault(), 35);
        due("3: the text is empty behind a fault too", x.told(2), 0);
        int[] all = {2, 2, 0, 2, 1, 90, 9, 0, 2, 100, 1};
        for (int what = 0; what < all.length; what++) {
            due("3: told(" + what + ") as it was", x.told(what), all[what]);
        }
        due("3: the shift stays", x.sleeper(0, 4), 5);
        due("3: W stays", x.sleeper(0, 1), 100);
        due("3: D stays", x.house(0, 0), 2);
        due("3: done stays", x.house(0, 4), 1);
        due("3: the ruler stays", x.ruler(1, 0), 0);
        due("3: the image stays", x.goBack(1), 1);
    }

    private void promise4() {
        FirstAwake x = new FirstAwake();
        Checks.feedText(x, "house 1 1 1;?");
        due("4: not read yet", x.fault(), NONE);
        due("4: faulty", x.valley(), -11);
        due("4: byte", x.fault(), 12);
        due("4: again", x.fault(), 12);
        Checks.feedText(x, " ".repeat(395) + "house");
        due("4: still the latest", x.fault(), 12);
        due("4: full text without an end", x.valley(), -11);
        due("4: at the text's length", x.fault(), 400);
        due("4: an empty text", x.valley(), 0);
        due("4: NONE", x.fault(), NONE);
    }

    private void promise5() {
        FirstAwake x = Checks.of(PAIR);
        Checks.feedText(x, "abc");
        x.law(1);
        x.noise(1, 99, 3);
        x.dawn(4);
        x.tell(1, 5);
        x.tell(0, 5);
        // by the last the noise wakes sleeper 0 at 99, so house 1 rules all four days
        int[] all = {2, 2, 3, 4, 1, 99, 3, 1, 4, 50, 2};
        for (int what = 0; what < all.length; what++) {
            due("5: told(" + what + ")", x.told(what), all[what]);
        }
        for (int what : new int[] {LOW, -1, 11, HIGH}) {
            due("5: told(" + what + ")", x.told(what), OUTSIDE);
        }
    }

    private void promise6() {
        FirstAwake x = Checks.of("house 2 100 30;house 7 999 60;house 1 0 0;sleeper 1 100 0 2;sleeper 0 300 0 5;sleeper 1 400 0 1;");
        int[][] all = {{2, 100, 30, 0, 0, 2}, {7, 999, 60, 0, 0, 5}, {1, 0, 0, 0, 0, 0}};
        for (int h = 0; h < 3; h++) {
            for (int what = 0; what < 6; what++) {
                due("6: house(" + h + ", " + what + ")", x.house(h, what), all[h][what]);
            }
            for (int what : new int[] {LOW, -1, 6, HIGH}) {
                due("6: house(" + h + ", " + what + ")", x.house(h, what), OUTSIDE);
            }
        }
        for (int h : new int[] {LOW, -1, 3, 4, 5, HIGH}) {
            due("6: house(" + h + ", 0)", x.house(h, 0), UNKNOWN);
            due("6: UNKNOWN ahead of OUTSIDE", x.house(h, 9), UNKNOWN);
        }
        x.dawn(99);
        due("6: days on end", x.house(1, 3), 99 % 7);
        due("6: done", x.house(1, 4), 99 / 7);
    }

    private void promise7() {
        FirstAwake x = Checks.of("house 2 100 60;house 1 1 30;sleeper 1 60 59 2;sleeper 0 600 59 9;");
        int[][] all = {{1, 60, 59, 2, 0, 1, 119}, {0, 600, 59, 9, 0, 541, 659}};
        for (int s = 0; s < 2; s++) {
            for (int what = 0; what < 7; what++) {
                due("7: sleeper(" + s + ", " + what + ")", x.sleeper(s, what), all[s][what]);
            }
            for (int what : new int[] {LOW, -1, 7, HIGH}) {
                due("7: sleeper(" + s + ", " + what + ")", x.sleeper(s, what), OUTSIDE);
            }
        }
        for (int s : new int[] {LOW, -1, 2, 7, 8, HIGH}) {
            due("7: sleeper(" + s + ", 0)", x.sleeper(s, 0), UNKNOWN);
            due("7: UNKNOWN ahead of OUTSIDE", x.sleeper(s, 7), UNKNOWN);
        }
        x.shift(0, 30);
        due("7: shifted", x.sleeper(0, 4), 30);
        due("7: W stays", x.sleeper(0, 1), 60);
        due("7: ahead of minute 0", x.sleeper(0, 5), -29);
        due("7: last", x.sleeper(0, 6), 89);
        x.noise(0, 50, 3);
        due("7: first below the noise", x.sleeper(0, 5), -29);
        due("7: last at the noise", x.sleeper(0, 6), 50);
        due("7: its own house does not hear it", x.sleeper(1, 6), 659);
        x.noise(0, 50, 2);
        due("7: not lighter", x.sleeper(0, 6), 89);
        x.noise(0, 89, 9);
        due("7: not behind the noise", x.sleeper(0, 6), 89);
        x.shift(0, 0);
        x.noise(0, 0, 9);
        due("7: all behind the noise, first", x.sleeper(0, 5), 0);
        due("7: all behind the noise, last", x.sleeper(0, 6), 0);
        x.noise(1, 600, 9);
        due("7: light 9 hears nothing", x.sleeper(1, 6), 659);
    }

    private void promise8() {
        FirstAwake x = Checks.of(PAIR);
        due("8: to the bed", x.shift(0, 30), 0);
        due("8: what it was", x.shift(0, 7), 30);
        due("8: shifted", x.sleeper(0, 5), 93);
        due("8: the other's bed", x.shift(1, 21), OUTSIDE);
        due("8: the other", x.shift(1, 20), 0);
        for (int k : new int[] {LOW, -1, 31, HIGH}) {
            due("8: shift(0, " + k + ")", x.shift(0, k), OUTSIDE);
        }
        for (int s : new int[] {LOW, -1, 2, HIGH}) {
            due("8: shift(" + s + ", 0)", x.shift(s, 0), UNKNOWN);
            due("8: UNKNOWN ahead of OUTSIDE", x.shift(s, -1), UNKNOWN);
        }
        due("8: refused ones changed nothing", x.shift(0, 0), 7);
        due("8: nor here", x.shift(1, 0), 20);
        FirstAwake y = Checks.of(EVEN);
        due("8: no bed", y.shift(0, 1), OUTSIDE);
        due("8: no bed, 0", y.shift(0, 0), 0);
    }

    private void promise9() {
        FirstAwake x = Checks.of(PAIR);
        due("9: none was", x.noise(1, 0, 0), 0);
        due("9: one was", x.noise(0, 700, 9), 1);
        due("9: minute", x.told(5), 700);
        due("9: loudness", x.told(6), 9);
        due("9: whence", x.told(7), 0);
        for (int bad : new int[] {LOW, -1, HIGH}) {
            due("9: noise(0, " + bad + ", 0)", x.noise(0, bad, 0), OUTSIDE);
            due("9: noise(0, 0, " + bad + ")", x.noise(0, 0, bad), OUTSIDE);
        }
        due("9: minute 701", x.noise(0, 701, 0), OUTSIDE);
        due("9: loudness 10", x.noise(0, 0, 10), OUTSIDE);
        for (int h : new int[] {LOW, -1, 2, 5, HIGH}) {
            due("9: noise(" + h + ", 0, 0)", x.noise(h, 0, 0), UNKNOWN);
            due("9: UNKNOWN ahead of OUTSIDE", x.noise(h, 701, 10), UNKNOWN);
        }
        due("9: nothing changed", x.told(5), 700);
        due("9: nor that", x.told(6), 9);
        due("9: nor that", x.told(7), 0);
    }

    private void promise10() {
        FirstAwake x = Checks.of(PAIR);
        due("10: none was", x.hush(), 0);
        x.noise(0, 0, 9);
        due("10: heard", x.sleeper(1, 5), 0);
        due("10: one was", x.hush(), 1);
        due("10: gone", x.hush(), 0);
        due("10: not heard", x.sleeper(1, 5), 101);
        for (int what = 5; what <= 7; what++) {
            due("10: told(" + what + ")", x.told(what), NONE);
        }
    }

    private void promise11() {
        FirstAwake x = Checks.of(PAIR);
        due("11: 0 at first", x.law(2), 0);
        due("11: 2", x.law(1), 2);
        for (int v : new int[] {LOW, -1, 3, HIGH}) {
            due("11: law(" + v + ")", x.law(v), OUTSIDE);
        }
        due("11: 1 stayed", x.told(4), 1);
        due("11: 1", x.law(0), 1);
    }

    private void promise12() {
        FirstAwake x = Checks.of(PAIR);
        for (int n : new int[] {LOW, -1, 0, 100, HIGH}) {
            due("12: dawn(" + n + ")", x.dawn(n), OUTSIDE);
        }
        due("12: no day went by", x.told(3), 0);
        due("12: the first", x.dawn(1), 0);
        x.law(1);
        due("12: the last", x.dawn(99), 1);
        due("12: days", x.told(3), 100);
        x.noise(0, 100, 9);
        due("12: like ones by the last: the least", x.dawn(1), 0);
        x.law(0);
        due("12: like ones by the first: the least", x.dawn(1), 0);
        x.noise(0, 99, 9);
        due("12: woken by noise", x.dawn(1), 1);
        due("12: its minute is the noise's", x.ruler(102, 1), 99);
        FirstAwake none = Checks.of("house 1 1 1;");
        due("12: no sleepers", none.dawn(1), NOT);
        due("12: OUTSIDE ahead of NOT", none.dawn(0), OUTSIDE);
    }

    /** Seed 0 draws 0, 21468, 9988, 22117 and on, over 65536 left over by 32768. */
    private void promise12Draws() {
        FirstAwake x = Checks.of("house 1 1 0;sleeper 0 300 2 0;sleeper 0 300 3 0;");
        // minutes: 298 + 0 % 5 = 298, 297 + 21468 % 7 = 303
        due("12: first dawn", x.dawn(1), 0);
        due("12: its minute", x.ruler(0, 1), 298);
        // 298 + 9988 % 5 = 301, 297 + 22117 % 7 = 301: the least of like ones
        due("12: second dawn", x.dawn(1), 0);
        due("12: its minute", x.ruler(1, 1), 301);
        FirstAwake y = Checks.of("house 1 1 0;sleeper 0 300 2 0;sleeper 0 300 3 0;");
        y.law(2);
        // behind the two minutes the lot: 9988 % 2 = 0
        due("12: by lot", y.dawn(1), 0);
        due("12: the minute of who is drawn", y.ruler(0, 1), 298);
        long seed = 0;
        for (int i = 0; i < 3; i++) {
            seed = (seed * 1103515245L + 12345L) % (1L << 31);
        }
        due("12: three draws", y.seed(HIGH), seed);
        long[] draws = new long[3];
        seed = HIGH;
        for (int i = 0; i < 3; i++) {
            seed = (seed * 1103515245L + 12345L) % (1L << 31);
            draws[i] = seed / 65536;
        }
        due("12: by lot from the highest seed", y.dawn(1), draws[2] % 2);
        due("12: its minute", y.ruler(1, 1), draws[2] % 2 == 0 ? 298 + draws[0] % 5 : 297 + draws[1] % 7);
        due("12: the seed behind it", y.seed(0), seed);
    }

    private void promise12Works() {
        FirstAwake x = Checks.of(PAIR);
        x.dawn(1);
        due("12: one day on end", x.house(0, 3), 1);
        due("12: not done", x.told(9), 0);
        x.dawn(1);
        due("12: days on end begin anew", x.house(0, 3), 0);
        due("12: done", x.house(0, 4), 1);
        due("12: had", x.told(9), 100);
        x.dawn(1);
        x.law(1);
        x.dawn(2);
        due("12: thrown back", x.house(0, 3), 0);
        due("12: the other's days on end", x.house(1, 3), 2);
        due("12: done stays", x.house(0, 4), 1);
        x.dawn(1);
        due("12: the other's work", x.house(1, 4), 1);
        due("12: had in all", x.told(9), 150);
    }

    private void promise13() {
        FirstAwake x = Checks.of(PAIR);
        x.dawn(2);
        x.law(1);
        x.dawn(1);
        due("13: ruler(0, 0)", x.ruler(0, 0), 0);
        due("13: ruler(1, 1)", x.ruler(1, 1), 100);
        due("13: ruler(2, 0)", x.ruler(2, 0), 1);
        due("13: ruler(2, 1)", x.ruler(2, 1), 101);
        for (int i : new int[] {LOW, -1, 3, 200, HIGH}) {
            due("13: ruler(" + i + ", 0)", x.ruler(i, 0), NONE);
            due("13: ruler(" + i + ", 1)", x.ruler(i, 1), NONE);
            due("13: OUTSIDE", x.ruler(i, 2), OUTSIDE);
        }
        for (int what : new int[] {LOW, -1, 2, HIGH}) {
            due("13: ruler(0, " + what + ")", x.ruler(0, what), OUTSIDE);
        }
        x.dawn(99);
        x.dawn(97);
        due("13: 199 are kept", x.told(8), 199);
        due("13: the 200th not yet", x.ruler(199, 0), NONE);
        x.law(0);
        x.dawn(1);
        x.law(1);
        x.dawn(5);
        due("13: 200 are kept", x.told(8), 200);
        due("13: the day goes on", x.told(3), 205);
        due("13: the 200th", x.ruler(199, 0), 0);
        due("13: no more", x.ruler(200, 0), NONE);
    }

    private void promise14() {
        FirstAwake x = Checks.of(EVEN);
        // at 199: 3 of 3, at 200: 2 of 3, at 201: 1 of 3, each of 333333333, cut
        due("14: the least wins ties", x.odds(0), 333333333 + 222222222 + 111111111);
        due("14: the greater loses them", x.odds(1), 222222222 + 111111111);
        x.law(1);
        due("14: by the last", x.odds(0), 333333333 + 222222222 + 111111111);
        due("14: by the last", x.odds(1), 222222222 + 111111111);
        x.law(2);
        due("14: by lot", x.odds(0), BILLION / 2);
        for (int s : new int[] {LOW, -1, 2, HIGH}) {
            due("14: odds(" + s + ")", x.odds(s), UNKNOWN);
        }
        FirstAwake y = Checks.of("house 1 1 0;sleeper 0 300 59 0;");
        due("14: alone, cut", y.odds(0), 119L * (BILLION / 119));
        y.law(2);
        due("14: alone, by lot", y.odds(0), BILLION);
        FirstAwake z = Checks.of("house 1 1 0;sleeper 0 300 1 0;sleeper 0 300 3 0;sleeper 0 300 2 0;");
        // cut each time, in rising order
        long want = 333333333L * 5 / 7 * 4 / 5 + 333333333L * 4 / 7 * 3 / 5 + 333333333L * 3 / 7 * 2 / 5;
        due("14: three, cut each time", z.odds(0), want);
        want = 142857142L + 142857142L + 142857142L * 2 / 3 * 4 / 5 + 142857142L / 3 * 3 / 5;
        due("14: the middle one", z.odds(1), want);
        want = 200000000L * 5 / 7 + 200000000L * 2 / 3 * 4 / 7 + 200000000L / 3 * 3 / 7;
        due("14: the last one", z.odds(2), want);
    }

    /** A part is cut to 0 by the last of the others, though it was 1 ahead of it. */
    private void promise14Cuts() {
        String ahead = "house 1 1 0;sleeper 0 300 0 0;" + "sleeper 0 241 59 0;".repeat(4) + "sleeper 0 299 59 0;";
        // 1 of 119 four times leaves 4, 59 of 119 leaves 1
        due("14: 1 is left", Checks.of(ahead).odds(0), 1);
        due("14: all of 119 let it rule", Checks.of(ahead + "sleeper 0 359 59 0;").odds(0), 1);
        due("14: 118 of 119 let it rule", Checks.of(ahead + "sleeper 0 358 59 0;").odds(0), 0);
    }

    private void promise14Noise() {
        FirstAwake x = Checks.of("house 1 1 0;house 1 1 0;sleeper 0 200 1 0;sleeper 1 200 1 0;");
        x.noise(0, 200, 1);
        // sleeper 1 wakes at 199, 200, 200
        due("14: sleeper 0", x.odds(0), 333333333 + 222222222);
        due("14: minutes that become M each by itself", x.odds(1), 222222222 + 111111111 + 111111111);
        x.law(1);
        due("14: by the last, sleeper 0", x.odds(0), 111111111 + 333333333 + 333333333);
        due("14: by the last, sleeper 1", x.odds(1), 111111111 + 111111111);
        x.law(0);
        x.noise(0, 198, 1);
        due("14: ahead of all", x.odds(1), 999999999);
        due("14: behind all", x.odds(0), 0);
        x.noise(0, 198, 0);
        due("14: too low a noise", x.odds(1), 333333333);
    }

    private void promise15() {
        FirstAwake x = Checks.of("house 1 1 0;house 1 1 0;house 1 1 0;sleeper 0 200 1 0;sleeper 2 200 1 0;sleeper 0 201 0 0;");
        for (int set = 0; set < 8; set++) {
            long want = 0;
            for (int s = 0; s < 3; s++) {
                want += (set >> x.sleeper(s, 0) & 1) == 1 ? x.odds(s) : 0;
            }
            due("15: together(" + set + ")", x.together(set), want);
        }
        checks.that("15: the first house's odds are more than 0", x.together(1) > 0);
        due("15: a house without sleepers", x.together(2), 0);
        for (int set : new int[] {LOW, -1, 8, 9, 16, 32, HIGH}) {
            due("15: together(" + set + ")", x.together(set), UNKNOWN);
        }
        x.law(2);
        due("15: by lot, cut", x.together(7), 999999999);
        due("15: by lot, two", x.together(1), 666666666);
        FirstAwake y = Checks.of("house 1 1 0;".repeat(5));
        due("15: five houses without sleepers", y.together(31), 0);
        due("15: a sixth", y.together(32), UNKNOWN);
        y.law(2);
        due("15: by lot without sleepers", y.together(31), 0);
    }

    private void promise16() {
        FirstAwake x = Checks.of("house 1 100 30;house 1 20 25;house 1 1 1;sleeper 0 100 0 2;sleeper 1 115 0 5;sleeper 1 300 0 0;");
        due("16: rules unshifted", x.best(0, 0), 0);
        due("16: its odds", x.best(0, 1), BILLION);
        // 20 is worth 20 less 20, as good as 0 at shift 0: the least of like ones
        due("16: of like ones the least", x.best(1, 0), 0);
        due("16: the odds by it", x.best(1, 1), 0);
        x.shift(0, 30);
        due("16: the best one is not the one it has", x.best(0, 0), 0);
        due("16: the shift stays", x.sleeper(0, 4), 30);
        for (int what : new int[] {LOW, -1, 2, HIGH}) {
            due("16: best(0, " + what + ")", x.best(0, what), OUTSIDE);
            due("16: OUTSIDE ahead of NOT", x.best(2, what), OUTSIDE);
        }
        due("16: no sleepers", x.best(2, 0), NOT);
        due("16: no sleepers", x.best(2, 1), NOT);
        for (int h : new int[] {LOW, -1, 3, HIGH}) {
            due("16: best(" + h + ", 0)", x.best(h, 0), UNKNOWN);
            due("16: UNKNOWN ahead of OUTSIDE", x.best(h, 2), UNKNOWN);
        }
        FirstAwake y = Checks.of("house 1 0 0;house 1 21 25;sleeper 0 100 0 2;sleeper 1 115 0 5;sleeper 1 300 0 0;");
        due("16: 21 less 20 is more than 0", y.best(1, 0), 20);
        due("16: the odds by it", y.best(1, 1), BILLION);
        FirstAwake z = Checks.of("house 1 0 0;house 1 999 19;sleeper 0 100 0 2;sleeper 1 115 0 5;");
        due("16: the bed is too short", z.best(1, 0), 0);
        z.shift(1, 19);
        due("16: 19 is no ten", z.best(1, 1), 0);
        FirstAwake w = Checks.of("house 1 0 0;house 1 999 60;sleeper 0 100 0 2;sleeper 1 160 0 5;");
        due("16: to the bed itself does not win the tie", w.best(1, 0), 0);
        w.law(1);
        due("16: by the last", w.best(1, 0), 0);
        due("16: by the last", w.best(1, 1), BILLION);
        w.law(0);
        w.noise(0, 99, 6);
        due("16: the noise has a say", w.best(1, 1), BILLION);
        due("16: so it need not", w.best(1, 0), 0);
    }

    private void promise17() {
        FirstAwake x = Checks.of("house 1 0 0;house 1 999 60;house 1 9 9;sleeper 0 100 0 2;sleeper 1 115 0 5;sleeper 1 300 0 0;");
        due("17: one round changes something", x.rests(NONE), 1);
        due("17: house 0", x.rests(0), 0);
        due("17: house 1", x.rests(1), 20);
        due("17: a house without sleepers", x.rests(2), 0);
        due("17: nothing is shifted by it", x.sleeper(1, 4), 0);
        x.shift(1, 20);
        due("17: one of two has it", x.rests(NONE), 1);
        x.shift(2, 20);
        due("17: both have it", x.rests(NONE), 0);
        due("17: house 1", x.rests(1), 20);
        x.shift(1, 25);
        due("17: from as all is", x.rests(NONE), 1);
        due("17: by tens", x.rests(1), 20);
        x.law(2);
        due("17: by lot", x.rests(NONE), 1);
        due("17: by lot nobody shifts", x.rests(1), 0);
        for (int h : new int[] {LOW, -2, 3, HIGH}) {
            due("17: rests(" + h + ")", x.rests(h), UNKNOWN);
        }
        FirstAwake y = Checks.of("house 1 1 1;");
        due("17: no sleepers", y.rests(NONE), 0);
        due("17: no sleepers", y.rests(0), 0);
    }

    /** House 0 gets ahead of house 1, which goes to bed again, so that house 0 has gone too far. */
    private void promise17Rounds() {
        FirstAwake x = Checks.of("house 1 35 60;house 1 5 10;sleeper 0 305 0 0;sleeper 1 304 0 0;");
        due("17: one round", x.rests(NONE), 1);
        due("17: house 0", x.rests(0), 10);
        x.shift(1, 10);
        due("17: two rounds", x.rests(NONE), 2);
        due("17: house 0 behind two rounds", x.rests(0), 10);
        due("17: house 1 behind two rounds", x.rests(1), 0);
    }

    /** Each gets ahead of the other by ten more, till it does not pay, and begins again. */
    private void promise17Never() {
        FirstAwake x = Checks.of("house 1 999 60;house 1 999 60;house 1 1 1;sleeper 0 300 0 0;sleeper 1 300 0 0;");
        due("17: never", x.rests(NONE), NONE);
        due("17: never", x.rests(1), NONE);
        due("17: never, without sleepers too", x.rests(2), NONE);
        due("17: never, but such a house there is not", x.rests(3), UNKNOWN);
    }

    private void promise18() {
        FirstAwake x = Checks.of("house 1 1 0;house 1 1 0;house 1 1 0;sleeper 0 200 0 0;sleeper 1 210 0 4;sleeper 1 220 0 6;");
        due("18: by the first silence is best", x.loud(0, 0), 60);
        due("18: by the first silence is best", x.loud(0, 1), 0);
        due("18: by the first silence is best", x.loud(0, 2), BILLION);
        x.law(1);
        due("18: M", x.loud(0, 0), 60);
        due("18: the least N that wakes both", x.loud(0, 1), 7);
        due("18: the odds by it", x.loud(0, 2), BILLION);
        due("18: no noise is needed", x.loud(1, 1), 0);
        due("18: no noise is needed", x.loud(1, 2), BILLION);
        due("18: without sleepers", x.loud(2, 0), 60);
        due("18: without sleepers", x.loud(2, 1), 0);
        due("18: without sleepers", x.loud(2, 2), 0);
        x.noise(0, 100, 9);
        due("18: in place of what there is", x.loud(1, 2), BILLION);
        due("18: what there is stays", x.told(5), 100);
        x.law(2);
        due("18: by lot", x.loud(1, 2), 666666666);
        FirstAwake y = Checks.of("house 1 1 0;house 1 1 0;sleeper 0 200 0 0;sleeper 1 210 0 8;");
        y.law(1);
        due("18: the loudest", y.loud(0, 1), 9);
        due("18: the loudest", y.loud(0, 2), BILLION);
        for (int what : new int[] {LOW, -1, 3, HIGH}) {
            due("18: loud(0, " + what + ")", x.loud(0, what), OUTSIDE);
        }
        for (int h : new int[] {LOW, -1, 3, HIGH}) {
            due("18: loud(" + h + ", 0)", x.loud(h, 0), UNKNOWN);
            due("18: UNKNOWN ahead of OUTSIDE", x.loud(h, 3), UNKNOWN);
        }
    }

    private void promise19() {
        FirstAwake x = Checks.of("house 2 1 0;house 1 1 0;house 3 1 0;sleeper 0 200 1 0;sleeper 1 200 1 0;");
        // house 0 has 666666666, house 1 333333333
        due("19: one day of two", x.work(0, 1), 0);
        long two = 666666666L * 666666666L / BILLION;
        due("19: two days", x.work(0, 2), two);
        long backOnce = BILLION - 666666666L;
        long third = backOnce * 666666666L / BILLION * 666666666L / BILLION;
        due("19: three days", x.work(0, 3), two + third);
        due("19: one day of one", x.work(1, 1), 333333333);
        due("19: two days of one", x.work(1, 2), 333333333 + 666666667L * 333333333L / BILLION);
        due("19: without sleepers", x.work(2, 60), 0);
        for (int n : new int[] {LOW, -1, 0, 61, HIGH}) {
            due("19: work(0, " + n + ")", x.work(0, n), OUTSIDE);
        }
        for (int h : new int[] {LOW, -1, 3, HIGH}) {
            due("19: work(" + h + ", 1)", x.work(h, 1), UNKNOWN);
            due("19: UNKNOWN ahead of OUTSIDE", x.work(h, 0), UNKNOWN);
        }
        due("19: no day goes by", x.told(3), 0);
        FirstAwake y = Checks.of("house 7 1 0;sleeper 0 200 0 0;");
        due("19: not by the sixth day", y.work(0, 6), 0);
        due("19: by the seventh", y.work(0, 7), BILLION);
        due("19: it stays so", y.work(0, 60), BILLION);
        y.dawn(5);
        due("19: from the days on end that are", y.work(0, 1), 0);
        due("19: two are left", y.work(0, 2), BILLION);
    }

    private void promise20() {
        FirstAwake x = Checks.of("house 2 1 0;house 1 1 0;house 3 1 0;sleeper 0 200 1 0;sleeper 1 200 1 0;");
        due("20: 33 of 100 by day 1", x.likely(1, 33), 1);
        due("20: 34 needs one more", x.likely(1, 34), 2);
        due("20: 1", x.likely(0, 1), 2);
        due("20: without sleepers", x.likely(2, 1), NONE);
        due("20: never all of it", x.likely(1, 100), NONE);
        int day = x.likely(0, 99);
        checks.that("20: by that day, not a day before", x.work(0, day) >= 990000000 && x.work(0, day - 1) < 990000000);
        for (int q : new int[] {LOW, -1, 0, 101, HIGH}) {
            due("20: likely(0, " + q + ")", x.likely(0, q), OUTSIDE);
        }
        for (int h : new int[] {LOW, -1, 3, HIGH}) {
            due("20: likely(" + h + ", 1)", x.likely(h, 1), UNKNOWN);
            due("20: UNKNOWN ahead of OUTSIDE", x.likely(h, 0), UNKNOWN);
        }
        x.law(2);
        due("20: half is 50 of 100", x.likely(1, 50), 1);
        due("20: half is not 51", x.likely(1, 51), 2);
        FirstAwake z = Checks.of("house 1 1 0;house 1 1 0;sleeper 0 200 4 0;sleeper 1 205 4 0;");
        checks.that("20: by day 60 alone", z.work(1, 60) >= 990000000 && z.work(1, 59) < 990000000);
        due("20: the last day", z.likely(1, 99), 60);
        FirstAwake y = Checks.of("house 7 1 0;sleeper 0 200 0 0;");
        due("20: all of it", y.likely(0, 100), 7);
        y.dawn(6);
        due("20: from the days on end that are", y.likely(0, 100), 1);
    }

    private void promise21() {
        FirstAwake x = Checks.of(PAIR);
        due("21: one", x.tell(0, 0), 1);
        due("21: two", x.tell(1, 999), 2);
        for (int minute : new int[] {LOW, -1, 1000, HIGH}) {
            due("21: tell(0, " + minute + ")", x.tell(0, minute), OUTSIDE);
        }
        for (int s : new int[] {LOW, -1, 2, HIGH}) {
            due("21: tell(" + s + ", 0)", x.tell(s, 0), UNKNOWN);
            due("21: UNKNOWN ahead of OUTSIDE", x.tell(s, -1), UNKNOWN);
        }
        due("21: two are told", x.told(10), 2);
        for (int i = 3; i <= 40; i++) {
            due("21: more", x.tell(1, i), i);
        }
        due("21: full", x.tell(0, 0), FULL);
        due("21: UNKNOWN ahead of FULL", x.tell(2, 0), UNKNOWN);
        due("21: OUTSIDE ahead of FULL", x.tell(0, 1000), OUTSIDE);
        due("21: forty are told", x.told(10), 40);
        x.law(2);
        due("21: forget", x.forget(), 40);
        due("21: by lot one may tell", x.tell(0, 5), 1);
    }

    private void promise22() {
        FirstAwake x = Checks.of(PAIR);
        due("22: none", x.forget(), 0);
        x.tell(0, 5);
        x.tell(0, 6);
        due("22: a lie", x.lies(), 0);
        due("22: two", x.forget(), 2);
        due("22: none is told", x.told(10), 0);
        due("22: no lie", x.lies(), NONE);
        due("22: none again", x.forget(), 0);
    }

    private void promise23() {
        FirstAwake x = Checks.of("house 1 1 60;house 1 1 60;sleeper 0 200 5 0;sleeper 1 200 5 9;");
        due("23: nobody is told", x.lies(), NONE);
        x.tell(0, 195);
        x.tell(1, 195);
        x.tell(0, 205);
        due("23: the least may wake with the other", x.lies(), NONE);
        x.tell(1, 204);
        due("23: ahead of the other's last", x.lies(), NONE);
        x.tell(1, 205);
        x.tell(0, 194);
        due("23: the greater one must be ahead of some minute", x.lies(), 4);
        x.law(1);
        due("23: by the last", x.lies(), 1);
        x.shift(0, 11);
        due("23: shifts are as now", x.lies(), 0);
        x.law(2);
        due("23: by lot", x.lies(), NOT);
        x.forget();
        due("23: by lot with nobody told", x.lies(), NOT);
        FirstAwake y = Checks.of("house 1 1 60;house 1 1 60;sleeper 0 200 5 0;sleeper 1 200 5 9;");
        y.noise(1, 190, 5);
        y.tell(0, 190);
        due("23: as the noise makes it", y.lies(), NONE);
        y.tell(0, 195);
        due("23: it cannot sleep so long", y.lies(), 1);
        y.forget();
        y.tell(1, 195);
        due("23: the other is always ahead", y.lies(), 0);
        FirstAwake z = Checks.of("house 1 1 60;sleeper 0 200 5 0;");
        z.tell(0, 205);
        due("23: alone", z.lies(), NONE);
        z.tell(0, 206);
        due("23: alone", z.lies(), 1);
    }

    private void promise24() {
        FirstAwake x = Checks.of("house 1 1 60;house 1 1 0;sleeper 0 200 5 0;sleeper 1 200 5 9;");
        due("24: nobody told: all but its own", x.fits(0, NONE), 60);
        due("24: 0 is its own", x.fits(0, 0), 1);
        due("24: the last", x.fits(0, 59), 60);
        due("24: no more", x.fits(0, 60), NONE);
        x.shift(0, 10);
        due("24: 10 is its own", x.fits(0, 9), 9);
        due("24: 10 is left out", x.fits(0, 10), 11);
        x.tell(0, 185);
        // 185 is one of its minutes by shifts 10 to 20, of which it has 10
        due("24: how many", x.fits(0, NONE), 10);
        due("24: the first", x.fits(0, 0), 11);
        due("24: the tenth", x.fits(0, 9), 20);
        due("24: an eleventh", x.fits(0, 10), NONE);
        due("24: of others' words nothing is asked", x.fits(1, NONE), 60);
        due("24: beyond its bed", x.fits(1, 59), 60);
        x.tell(0, 180);
        due("24: both", x.fits(0, NONE), 6);
        due("24: both, the first", x.fits(0, 0), 15);
        x.tell(0, 100);
        due("24: none", x.fits(0, NONE), 0);
        due("24: none", x.fits(0, 0), NONE);
        for (int i : new int[] {LOW, -2, HIGH}) {
            due("24: fits(1, " + i + ")", x.fits(1, i), NONE);
        }
        due("24: the shift stays", x.sleeper(0, 4), 10);
        x.law(2);
        due("24: by lot", x.fits(0, NONE), NOT);
        for (int s : new int[] {LOW, -1, 2, HIGH}) {
            due("24: UNKNOWN ahead of NOT", x.fits(s, 0), UNKNOWN);
        }
        x.law(1);
        x.forget();
        x.tell(1, 150);
        // 150 is its by shifts 45 to 55; sleeper 0 wakes at 185 at the soonest, so it is no last one
        due("24: others that do not let it", x.fits(1, NONE), 0);
        x.law(0);
        due("24: by the first they do", x.fits(1, NONE), 11);
        x.noise(0, 150, 9);
        due("24: light 9 does not hear it", x.fits(1, NONE), 11);
        x.forget();
        x.noise(1, 150, 9);
        x.tell(0, 150);
        // the noise makes all of its minutes behind 150 to 150; by 55 shifts and more some is 150 itself
        due("24: as the noise makes them", x.fits(0, NONE), 55);
        due("24: as the noise makes them", x.fits(0, 54), 55);
    }

    private void promise25() {
        FirstAwake x = new FirstAwake();
        due("25: 0 at first", x.seed(HIGH), 0);
        due("25: the highest", x.seed(0), HIGH);
        due("25: the least", x.seed(5), 0);
        for (int v : new int[] {LOW, -1}) {
            due("25: seed(" + v + ")", x.seed(v), OUTSIDE);
        }
        due("25: nothing changed", x.seed(1), 5);
    }

    private void promise26() {
        FirstAwake x = new FirstAwake();
        for (int i : new int[] {LOW, -1, 2, HIGH}) {
            due("26: keep(" + i + ")", x.keep(i), UNKNOWN);
        }
        due("26: keep(0) without a valley", x.keep(0), 1);
        due("26: keep(1)", x.keep(1), 1);
        x.law(1);
        x.keep(1);
        x.law(2);
        due("26: image 1 was kept anew", x.goBack(1), 1);
        due("26: the law", x.told(4), 1);
        x.goBack(0);
        due("26: image 0 is apart", x.told(4), 0);
    }

    private void promise27() {
        FirstAwake x = Checks.of(PAIR);
        for (int i : new int[] {LOW, -1, 2, HIGH}) {
            due("27: goBack(" + i + ")", x.goBack(i), UNKNOWN);
        }
        due("27: not kept", x.goBack(0), NOT);
        due("27: not kept", x.goBack(1), NOT);
        // sleeper 1 wakes at 98 then and rules four days: a work of three, and one more day
        x.shift(1, 3);
        x.noise(0, 600, 1);
        x.seed(99);
        x.dawn(4);
        x.keep(0);
        x.tell(0, 1);
        int seed = x.seed(5);
        x.shift(1, 9);
        x.hush();
        x.law(1);
        x.dawn(3);
        due("27: the other's work was done meanwhile", x.house(0, 4), 1);
        Checks.feedText(x, "abc");
        due("27: back", x.goBack(0), 1);
        // what is told and the text are in no image
        int[] all = {2, 2, 3, 4, 0, 600, 1, 0, 4, 50, 1};
        for (int what = 0; what < all.length; what++) {
            due("27: told(" + what + ")", x.told(what), all[what]);
        }
        due("27: the shift", x.sleeper(1, 4), 3);
        due("27: the minutes follow it", x.sleeper(1, 5), 98);
        due("27: days on end of house 0", x.house(0, 3), 0);
        due("27: days on end of house 1", x.house(1, 3), 1);
        due("27: done of house 0", x.house(0, 4), 0);
        due("27: done of house 1", x.house(1, 4), 1);
        due("27: the ruler of the last day", x.ruler(3, 0), 1);
        due("27: a ruler beyond", x.ruler(4, 0), NONE);
        due("27: the seed", x.seed(1), seed);
        x.noise(0, 1, 9);
        x.dawn(2);
        due("27: back once more", x.goBack(0), 1);
        due("27: to the same day", x.told(3), 4);
        due("27: to the same seed", x.seed(1), seed);
        due("27: to the same noise", x.sleeper(1, 5), 98);
        due("27: the other was not kept", x.goBack(1), NOT);
        x.valley();
        due("27: a faulty text leaves the image", x.goBack(0), 1);
        x.valley();
        due("27: a valley does not", x.goBack(0), NOT);
    }

    /** An image's rulers are its own: other days in between do not show in them. */
    private void promise27Rulers() {
        FirstAwake x = Checks.of(PAIR);
        x.keep(0);
        x.dawn(3);
        x.keep(1);
        x.goBack(0);
        due("27: no ruler again", x.ruler(0, 0), NONE);
        x.law(1);
        x.dawn(3);
        due("27: other rulers", x.ruler(0, 0), 1);
        x.goBack(1);
        for (int i = 0; i < 3; i++) {
            due("27: ruler(" + i + ", 0)", x.ruler(i, 0), 0);
            due("27: ruler(" + i + ", 1)", x.ruler(i, 1), 100);
        }
    }

    /** As many houses and sleepers as there may be: the last of them is asked of everything. */
    private void fullValley() {
        StringBuilder text = new StringBuilder("house 1 5 1;".repeat(4)).append("house 1 5 60;");
        for (int s = 0; s < 8; s++) {
            text.append("sleeper ").append(s % 5).append(" 300 0 ").append(s).append(';');
        }
        FirstAwake x = new FirstAwake();
        Checks.feedText(x, text.toString());
        due("full: valley", x.valley(), 8);
        due("full: houses", x.told(0), 5);
        due("full: house 4", x.house(4, 5), 1 << 4);
        due("full: house 5", x.house(5, 0), UNKNOWN);
        due("full: sleeper 7", x.sleeper(7, 3), 7);
        due("full: sleeper 8", x.sleeper(8, 0), UNKNOWN);
        due("full: sleeper 0 has the odds", x.odds(0), BILLION);
        due("full: sleeper 7 has none", x.odds(7), 0);
        due("full: all", x.together(31), BILLION);
        due("full: best", x.best(4, 0), 0);
        due("full: rests", x.rests(4), 0);
        due("full: noise", x.noise(4, 299, 8), 0);
        due("full: heard by the lighter", x.sleeper(7, 5), 299);
        due("full: dawn", x.dawn(99), 0);
        x.law(1);
        due("full: the last", x.odds(4), BILLION);
        due("full: dawn by the last", x.dawn(1), 4);
        due("full: loud", x.loud(4, 2), BILLION);
        x.law(2);
        due("full: by lot", x.odds(7), BILLION / 8);
        due("full: together by lot", x.together(31), BILLION);
        due("full: work", x.work(4, 1), BILLION / 8);
        x.law(0);
        due("full: tell", x.tell(7, 299), 1);
        due("full: sleeper 0 is as early", x.lies(), 0);
        due("full: fits", x.fits(7, NONE), 0);
        due("full: keep", x.keep(1), 1);
        due("full: goBack", x.goBack(1), 1);
    }
}
