import java.util.ArrayList;
import java.util.List;
import java.util.TreeMap;
import java.util.regex.Matcher;
import java.util.regex.Pattern;

/**
 * The document once more, as slowly and literally as possible: every minute is listed, every
 * noise is tried. It shares no way of counting with the program, so that both hardly err alike.
 */
final class Model {
    static final int NONE = -1, UNKNOWN = -1000000001, OUTSIDE = -1000000002, NOT = -1000000003, FULL = -1000000004;
    static final long BILLION = 1000000000L;

    record House(int d, int v, int bed) { }

    record Sleeper(int h, int w, int s, int l) { }

    record Noise(int h, int m, int n) { }

    record Word(int s, int minute) { }

    record Fault(int at, int number) { }

    record Ruler(int s, int minute) { }

    /** What the images keep. */
    static final class State {
        int[] shift = new int[8];
        Noise noise;
        int law;
        int day;
        int[] onEnd = new int[5];
        int[] done = new int[5];
        int had;
        List<Ruler> rulers = new ArrayList<>();
        long seed;

        State copy() {
            State c = new State();
            c.shift = shift.clone();
            c.noise = noise;
            c.law = law;
            c.day = day;
            c.onEnd = onEnd.clone();
            c.done = done.clone();
            c.had = had;
            c.rulers = new ArrayList<>(rulers);
            c.seed = seed;
            return c;
        }
    }

    String text = "";
    List<House> houses = new ArrayList<>();
    List<Sleeper> sleepers = new ArrayList<>();
    State now = new State();
    State[] images = new State[2];
    List<Word> words = new ArrayList<>();
    int faultByte = NONE;

    int feed(int n, long bytes) {
        if (n < 1 || n > 8) return OUTSIDE;
        if (text.length() + n > 400) return FULL;
        for (int i = n - 1; i >= 0; i--) text += (char) (bytes >> 8 * i & 255);
        return text.length();
    }

    // ---- the text: tokens first, then what may stand where

    private record Token(int at, String sign) {
        boolean isNumber() { return sign.matches("[0-9]+"); }
    }

    private static List<Token> tokens(String text) {
        List<Token> list = new ArrayList<>();
        Matcher m = Pattern.compile("[a-z]+|[0-9]+|[^ ]", Pattern.DOTALL).matcher(text);
        while (m.find()) list.add(new Token(m.start(), m.group()));
        return list;
    }

    static Fault read(String text, List<House> hs, List<Sleeper> ss) {
        List<Token> all = tokens(text);
        int i = 0;
        while (i < all.size()) {
            Token word = all.get(i++);
            boolean isHouse = word.sign.equals("house");
            if (!isHouse && !word.sign.equals("sleeper")) return new Fault(word.at, 1);
            if (isHouse ? hs.size() == 5 : ss.size() == 8) return new Fault(word.at, 3);
            int[][] bounds = isHouse
                ? new int[][] {{1, 7}, {0, 999}, {0, 60}}
                : new int[][] {{0, hs.size() - 1}, {60, 600}, {0, 59}, {0, 9}};
            int[] v = new int[bounds.length];
            for (int k = 0; k < bounds.length; k++, i++) {
                if (i == all.size()) return new Fault(text.length(), 1);
                Token t = all.get(i);
                if (!t.isNumber()) return new Fault(t.at, 1);
                if (t.sign.length() > 3) return new Fault(t.at, 2);
                v[k] = Integer.parseInt(t.sign);
                if (v[k] < bounds[k][0] || v[k] > bounds[k][1]) return new Fault(t.at, 2);
            }
            if (i == all.size()) return new Fault(text.length(), 1);
            if (!all.get(i).sign.equals(";")) return new Fault(all.get(i).at, 1);
            i++;
            if (isHouse) hs.add(new House(v[0], v[1], v[2]));
            else ss.add(new Sleeper(v[0], v[1], v[2], v[3]));
        }
        return null;
    }

    int valley() {
        List<House> hs = new ArrayList<>();
        List<Sleeper> ss = new ArrayList<>();
        Fault fault = read(text, hs, ss);
        text = "";
        faultByte = fault == null ? NONE : fault.at;
        if (fault != null) return -10 - fault.number;
        houses = hs;
        sleepers = ss;
        long seed = now.seed;
        now = new State();
        now.seed = seed;
        images = new State[2];
        words.clear();
        return ss.size();
    }

    int fault() { return faultByte; }

    int told(int what) {
        Noise z = now.noise;
        int[] all = {houses.size(), sleepers.size(), text.length(), now.day, now.law,
            z == null ? NONE : z.m, z == null ? NONE : z.n, z == null ? NONE : z.h,
            now.rulers.size(), now.had, words.size()};
        return what < 0 || what >= all.length ? OUTSIDE : all[what];
    }

    private boolean noHouse(int h) { return h < 0 || h >= houses.size(); }

    private boolean noSleeper(int s) { return s < 0 || s >= sleepers.size(); }

    int house(int h, int what) {
        if (noHouse(h)) return UNKNOWN;
        House x = houses.get(h);
        int set = 0;
        for (int s = 0; s < sleepers.size(); s++) if (sleepers.get(s).h == h) set += 1 << s;
        int[] all = {x.d, x.v, x.bed, now.onEnd[h], now.done[h], set};
        return what < 0 || what >= all.length ? OUTSIDE : all[what];
    }

    int sleeper(int s, int what) {
        if (noSleeper(s)) return UNKNOWN;
        Sleeper x = sleepers.get(s);
        int[] m = minutes(now, s);
        int[] all = {x.h, x.w, x.s, x.l, now.shift[s], m[0], m[m.length - 1]};
        return what < 0 || what >= all.length ? OUTSIDE : all[what];
    }

    // ---- dawns

    /** Each minute by itself, as the noise makes it. */
    private int[] minutes(State st, int s) {
        Sleeper x = sleepers.get(s);
        int[] list = new int[2 * x.s + 1];
        for (int i = 0; i < list.length; i++) {
            int m = x.w - st.shift[s] - x.s + i;
            Noise z = st.noise;
            if (z != null && x.l < z.n && x.h != z.h && m > z.m) m = z.m;
            list[i] = m;
        }
        return list;
    }

    int shift(int s, int k) {
        if (noSleeper(s)) return UNKNOWN;
        if (k < 0 || k > houses.get(sleepers.get(s).h).bed) return OUTSIDE;
        int before = now.shift[s];
        now.shift[s] = k;
        return before;
    }

    int noise(int h, int m, int n) {
        if (noHouse(h)) return UNKNOWN;
        if (m < 0 || m > 700 || n < 0 || n > 9) return OUTSIDE;
        int before = now.noise == null ? 0 : 1;
        now.noise = new Noise(h, m, n);
        return before;
    }

    int hush() {
        int before = now.noise == null ? 0 : 1;
        now.noise = null;
        return before;
    }

    int law(int v) {
        if (v < 0 || v > 2) return OUTSIDE;
        int before = now.law;
        now.law = v;
        return before;
    }

    private int draw(int n) {
        now.seed = (now.seed * 1103515245L + 12345L) % 2147483648L;
        return (int) (now.seed / 65536 % n);
    }

    int dawn(int n) {
        if (n < 1 || n > 99) return OUTSIDE;
        if (sleepers.isEmpty()) return NOT;
        int who = NONE;
        for (int i = 0; i < n; i++) who = oneDawn();
        return who;
    }

    private int oneDawn() {
        int[] woke = new int[sleepers.size()];
        for (int s = 0; s < woke.length; s++) woke[s] = minutes(now, s)[draw(2 * sleepers.get(s).s + 1)];
        int who = 0;
        if (now.law == 2) {
            who = draw(woke.length);
        } else {
            for (int s = woke.length - 1; s >= 0; s--) {
                if (now.law == 0 ? woke[s] <= woke[who] : woke[s] >= woke[who]) who = s;
            }
            for (int s = woke.length - 1; s >= 0; s--) if (woke[s] == woke[who]) who = s;
        }
        now.day++;
        if (now.day <= 200) now.rulers.add(new Ruler(who, woke[who]));
        int h = sleepers.get(who).h;
        for (int o = 0; o < houses.size(); o++) now.onEnd[o] = o == h ? now.onEnd[o] + 1 : 0;
        if (now.onEnd[h] == houses.get(h).d) {
            now.onEnd[h] = 0;
            now.done[h]++;
            now.had += houses.get(h).v;
        }
        return who;
    }

    int ruler(int i, int what) {
        if (what != 0 && what != 1) return OUTSIDE;
        if (i < 0 || i >= now.rulers.size()) return NONE;
        return what == 0 ? now.rulers.get(i).s : now.rulers.get(i).minute;
    }

    // ---- odds

    private static boolean lets(int law, int s, int minute, int other, int otherMinute) {
        if (otherMinute == minute) return other > s;
        return law == 0 ? otherMinute > minute : otherMinute < minute;
    }

    private long oddsOf(State st, int s) {
        if (st.law == 2) return BILLION / sleepers.size();
        int n = sleepers.size();
        int[][] all = new int[n][];
        List<TreeMap<Integer, Integer>> known = new ArrayList<>();
        for (int o = 0; o < n; o++) {
            all[o] = minutes(st, o);
            known.add(new TreeMap<>());
        }
        long sum = 0;
        for (int minute : all[s]) {
            long part = BILLION / all[s].length;
            for (int o = 0; o < n; o++) {
                if (o == s) continue;
                int other = o;
                int letting = known.get(o).computeIfAbsent(minute, m -> count(st.law, s, m, other, all[other]));
                part = part * letting / all[o].length;
            }
            sum += part;
        }
        return sum;
    }

    private static int count(int law, int s, int minute, int other, int[] its) {
        int c = 0;
        for (int m : its) if (lets(law, s, minute, other, m)) c++;
        return c;
    }

    private long oddsOfHouse(State st, int h) {
        long sum = 0;
        for (int s = 0; s < sleepers.size(); s++) if (sleepers.get(s).h == h) sum += oddsOf(st, s);
        return sum;
    }

    int odds(int s) { return noSleeper(s) ? UNKNOWN : (int) oddsOf(now, s); }

    int together(int set) {
        for (int b = 0; b < 32; b++) if ((set >>> b & 1) == 1 && noHouse(b)) return UNKNOWN;
        long sum = 0;
        for (int h = 0; h < houses.size(); h++) if ((set >> h & 1) == 1) sum += oddsOfHouse(now, h);
        return (int) sum;
    }

    private void shiftHouse(State st, int h, int k) {
        for (int s = 0; s < sleepers.size(); s++) if (sleepers.get(s).h == h) st.shift[s] = k;
    }

    private boolean isEmpty(int h) {
        return sleepers.stream().noneMatch(x -> x.h == h);
    }

    private long[] bestShift(State from, int h) {
        long[] best = null;
        for (int k = 0; k <= houses.get(h).bed; k += 10) {
            State st = from.copy();
            shiftHouse(st, h, k);
            long odds = oddsOfHouse(st, h);
            long gain = odds * houses.get(h).v / BILLION - k;
            if (best == null || gain > best[2]) best = new long[] {k, odds, gain};
        }
        return best;
    }

    int best(int h, int what) {
        if (noHouse(h)) return UNKNOWN;
        if (what != 0 && what != 1) return OUTSIDE;
        if (isEmpty(h)) return NOT;
        return (int) bestShift(now, h)[what];
    }

    int rests(int h) {
        if (h != NONE && noHouse(h)) return UNKNOWN;
        State st = now.copy();
        int changing = 0;
        for (int round = 1; round <= 20; round++) {
            int[] before = st.shift.clone();
            for (int o = 0; o < houses.size(); o++) {
                if (!isEmpty(o)) shiftHouse(st, o, (int) bestShift(st, o)[0]);
            }
            if (java.util.Arrays.equals(before, st.shift)) {
                if (h == NONE) return changing;
                for (int s = 0; s < sleepers.size(); s++) if (sleepers.get(s).h == h) return st.shift[s];
                return 0;
            }
            changing++;
        }
        return NONE;
    }

    int loud(int h, int what) {
        if (noHouse(h)) return UNKNOWN;
        if (what < 0 || what > 2) return OUTSIDE;
        long[] best = null;
        for (int m = 60; m <= 600; m += 10) {
            for (int n = 0; n <= 9; n++) {
                State st = now.copy();
                st.noise = new Noise(h, m, n);
                long odds = oddsOfHouse(st, h);
                if (best == null || odds > best[2]) best = new long[] {m, n, odds};
            }
        }
        return (int) best[what];
    }

    private long workBy(int h, int n) {
        int d = houses.get(h).d;
        long odds = oddsOfHouse(now, h);
        long[] at = new long[d + 1];
        at[now.onEnd[h]] = BILLION;
        for (int day = 0; day < n; day++) {
            long[] next = new long[d + 1];
            next[d] = at[d];
            for (int c = 0; c < d; c++) {
                long rules = at[c] * odds / BILLION;
                next[c + 1] += rules;
                next[0] += at[c] - rules;
            }
            at = next;
        }
        return at[d];
    }

    int work(int h, int n) {
        if (noHouse(h)) return UNKNOWN;
        if (n < 1 || n > 60) return OUTSIDE;
        return (int) workBy(h, n);
    }

    int likely(int h, int q) {
        if (noHouse(h)) return UNKNOWN;
        if (q < 1 || q > 100) return OUTSIDE;
        for (int n = 1; n <= 60; n++) if (workBy(h, n) >= q * (BILLION / 100)) return n;
        return NONE;
    }

    // ---- told rulers

    int tell(int s, int minute) {
        if (noSleeper(s)) return UNKNOWN;
        if (minute < 0 || minute > 999) return OUTSIDE;
        if (words.size() == 40) return FULL;
        words.add(new Word(s, minute));
        return words.size();
    }

    int forget() {
        int before = words.size();
        words.clear();
        return before;
    }

    private boolean isLie(State st, Word w) {
        boolean its = false;
        for (int m : minutes(st, w.s)) its |= m == w.minute;
        if (!its) return true;
        for (int o = 0; o < sleepers.size(); o++) {
            if (o != w.s && count(st.law, w.s, w.minute, o, minutes(st, o)) == 0) return true;
        }
        return false;
    }

    int lies() {
        if (now.law == 2) return NOT;
        for (int i = 0; i < words.size(); i++) if (isLie(now, words.get(i))) return i;
        return NONE;
    }

    int fits(int s, int i) {
        if (noSleeper(s)) return UNKNOWN;
        if (now.law == 2) return NOT;
        List<Integer> fitting = new ArrayList<>();
        for (int k = 0; k <= 60; k++) {
            if (k == now.shift[s]) continue;
            State st = now.copy();
            st.shift[s] = k;
            if (words.stream().noneMatch(w -> w.s == s && isLie(st, w))) fitting.add(k);
        }
        if (i == NONE) return fitting.size();
        return i >= 0 && i < fitting.size() ? fitting.get(i) : NONE;
    }

    // ---- draws, images

    int seed(int v) {
        if (v < 0) return OUTSIDE;
        int before = (int) now.seed;
        now.seed = v;
        return before;
    }

    int keep(int i) {
        if (i != 0 && i != 1) return UNKNOWN;
        images[i] = now.copy();
        return 1;
    }

    int goBack(int i) {
        if (i != 0 && i != 1) return UNKNOWN;
        if (images[i] == null) return NOT;
        now = images[i].copy();
        return 1;
    }
}
