import java.util.Random;

/** Draws texts: good ones, and ones with a fault or two. */
final class Texts {
    private static final String[] BITS = {"house", "sleeper", "hous", "houses", "sleepe", "x", "a", "z", ";", ";;", " ", "  ",
        "0", "1", "7", "8", "60", "61", "59", "600", "601", "999", "1000", "0000", "007", "-1", "\n", "A", "\u00e9", "\u0000", "@", "[", "`", "{", "/", ":"};

    private Texts() { }

    /** Crowded: all wake at about the same time, so that all may rule. */
    static String goodValley(Random r, boolean crowded) {
        StringBuilder t = new StringBuilder();
        int houses = 1 + r.nextInt(5);
        int sleepers = r.nextInt(10) == 0 ? 0 : 1 + r.nextInt(8);
        int told = 0;
        for (int s = 0; s < sleepers || told < houses; ) {
            if (told < houses && (told == 0 || s == sleepers || r.nextBoolean())) {
                t.append("house ").append(1 + r.nextInt(r.nextBoolean() ? 2 : 7)).append(' ')
                    .append(r.nextInt(1000)).append(' ').append(r.nextInt(61)).append(';');
                told++;
            } else {
                int wake = crowded ? 280 + r.nextInt(40) : 60 + r.nextInt(541);
                int span = r.nextInt(3) == 0 ? r.nextInt(4) : r.nextInt(60);
                t.append("sleeper ").append(r.nextInt(told)).append(' ').append(wake).append(' ')
                    .append(span).append(' ').append(r.nextInt(10)).append(';');
                s++;
            }
        }
        return t.toString();
    }

    static String crowd(Random r) {
        StringBuilder t = new StringBuilder("house 1 1 1;");
        for (int s = 0; s < 8; s++) {
            t.append("sleeper 0 ").append(270 + r.nextInt(60)).append(' ').append(40 + r.nextInt(20)).append(" 0;");
        }
        return t.toString();
    }

    static String anyText(Random r) {
        StringBuilder t = new StringBuilder(goodValley(r, true));
        for (int i = r.nextInt(4); i > 0; i--) {
            int at = r.nextInt(t.length() + 1);
            int till = Math.min(t.length(), at + r.nextInt(3));
            t.replace(at, till, BITS[r.nextInt(BITS.length)]);
        }
        if (r.nextInt(6) == 0) {
            t.setLength(r.nextInt(t.length() + 1));
        }
        if (r.nextInt(6) == 0) {
            t.append(goodValley(r, false));
        }
        return t.length() > 400 ? t.substring(0, 400) : t.toString();
    }
}
