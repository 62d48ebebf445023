/** Counts answers that are not as due, and feeds texts. */
final class Checks {
    private static final int SHOWN = 20;

    private int wrong;
    private int asked;

    void due(String call, long got, long want) {
        asked++;
        if (got != want) {
            tellWrong(call + " answered " + got + ", due is " + want);
        }
    }

    void that(String claim, boolean holds) {
        asked++;
        if (!holds) {
            tellWrong(claim + " does not hold");
        }
    }

    private void tellWrong(String line) {
        wrong++;
        if (wrong <= SHOWN) {
            System.out.println(line);
        }
    }

    int wrongSoFar() {
        return wrong;
    }

    void finish(String name) {
        System.out.println(name + ": " + asked + " answers asked, " + wrong + " not as due");
        if (wrong != 0 || asked == 0) {
            System.exit(1);
        }
    }

    /** Feeds a text by eights and answers what the last feed answered. */
    static int feedText(FirstAwake x, String text) {
        int answer = 0;
        for (int at = 0; at < text.length(); at += 8) {
            int n = Math.min(8, text.length() - at);
            long bytes = 0;
            for (int i = 0; i < n; i++) {
                bytes = bytes << 8 | text.charAt(at + i) & 255;
            }
            answer = x.feed(n, bytes);
        }
        return answer;
    }

    /** A new object with the valley of a text without faults. */
    static FirstAwake of(String text) {
        FirstAwake x = new FirstAwake();
        feedText(x, text);
        if (x.valley() < 0) {
            throw new IllegalStateException("the test's own text is faulty: " + text);
        }
        return x;
    }
}
