import java.util.Arrays;

/**
 * The day is whose who wakes first: a valley of houses and sleepers, its dawns, the odds to rule,
 * the shifts and noises that better them, and rulers that were told. The document is DOC.md.
 */
public final class FirstAwake {
    public static final int NONE = -1, UNKNOWN = -1000000001, OUTSIDE = -1000000002, NOT = -1000000003, FULL = -1000000004;

    private static final int BILLION = 1000000000;
    private static final int MAX_BYTES = 400, MAX_HOUSES = 5, MAX_SLEEPERS = 8;
    private static final int MAX_NUMBER = 999, MAX_FIGURES = 3;
    private static final int MAX_NEED = 7, MAX_BED = 60;
    private static final int MIN_WAKE = 60, MAX_WAKE = 600, MAX_SPAN = 59, MAX_LIGHT = 9;
    private static final int MAX_NOISE_MINUTE = 700, MAX_LOUDNESS = 9;
    private static final int BY_FIRST = 0, BY_LAST = 1, BY_LOT = 2;
    private static final int MAX_DAWNS = 99, MAX_KEPT = 200, MAX_WORK_DAYS = 60;
    private static final int MAX_TOLD = 40, MAX_TOLD_MINUTE = 999;
    private static final int IMAGES = 2;

    private final Reader reader;
    private final Valley valley;
    private final Course now;
    private final Course firstImage;
    private final Course secondImage;
    private int imagesKept;
    private final Words words;
    private final Planner planner;
    private final Prospect prospect;

    public FirstAwake() {
        reader = new Reader();
        valley = new Valley();
        now = new Course(valley);
        firstImage = new Course(valley);
        secondImage = new Course(valley);
        words = new Words(valley);
        planner = new Planner(valley);
        prospect = new Prospect();
    }

    // ---- the valley

    public int feed(int n, long bytes) {
        if (n < 1 || n > 8) {
            return OUTSIDE;
        }
        return reader.append(n, bytes) ? reader.length : FULL;
    }

    public int valley() {
        int number = reader.readAll();
        if (number != 0) {
            return -10 - number;
        }
        valley.copyFrom(reader.draft);
        now.beginAnew();
        words.count = 0;
        imagesKept = 0;
        return valley.sleepers;
    }

    public int fault() {
        return reader.faultByte;
    }

    public int told(int what) {
        switch (what) {
            case 0: return valley.houses;
            case 1: return valley.sleepers;
            case 2: return reader.length;
            case 3: return now.day;
            case 4: return now.night.law;
            case 5: return now.night.noiseMinute;
            case 6: return now.night.loudness;
            case 7: return now.night.noiseHouse;
            case 8: return now.kept;
            case 9: return now.had;
            case 10: return words.count;
            default: return OUTSIDE;
        }
    }

    public int house(int h, int what) {
        if (!valley.hasHouse(h)) {
            return UNKNOWN;
        }
        switch (what) {
            case 0: return valley.need[h];
            case 1: return valley.worth[h];
            case 2: return valley.bed[h];
            case 3: return now.onEnd[h];
            case 4: return now.done[h];
            case 5: return valley.sleepersOf(h);
            default: return OUTSIDE;
        }
    }

    public int sleeper(int s, int what) {
        if (!valley.hasSleeper(s)) {
            return UNKNOWN;
        }
        switch (what) {
            case 0: return valley.home[s];
            case 1: return valley.wake[s];
            case 2: return valley.span[s];
            case 3: return valley.light[s];
            case 4: return now.night.shifted[s];
            case 5: return now.night.firstMinute(s);
            case 6: return now.night.lastMinute(s);
            default: return OUTSIDE;
        }
    }

    // ---- dawns

    public int shift(int s, int k) {
        if (!valley.hasSleeper(s)) {
            return UNKNOWN;
        }
        if (k < 0 || k > valley.bed[valley.home[s]]) {
            return OUTSIDE;
        }
        int before = now.night.shifted[s];
        now.night.shiftOne(s, k);
        return before;
    }

    public int noise(int h, int m, int n) {
        if (!valley.hasHouse(h)) {
            return UNKNOWN;
        }
        if (m < 0 || m > MAX_NOISE_MINUTE || n < 0 || n > MAX_LOUDNESS) {
            return OUTSIDE;
        }
        int before = now.night.isNoisy() ? 1 : 0;
        now.night.makeNoise(h, m, n);
        return before;
    }

    public int hush() {
        int before = now.night.isNoisy() ? 1 : 0;
        now.night.makeNoise(NONE, NONE, NONE);
        return before;
    }

    public int law(int v) {
        if (v < BY_FIRST || v > BY_LOT) {
            return OUTSIDE;
        }
        int before = now.night.law;
        now.night.law = v;
        return before;
    }

    public int dawn(int n) {
        if (n < 1 || n > MAX_DAWNS) {
            return OUTSIDE;
        }
        if (valley.sleepers == 0) {
            return NOT;
        }
        int who = NONE;
        for (int i = 0; i < n; i++) {
            who = now.liveDay();
        }
        return who;
    }

    public int ruler(int i, int what) {
        if (what < 0 || what > 1) {
            return OUTSIDE;
        }
        if (i < 0 || i >= now.kept) {
            return NONE;
        }
        return what == 0 ? now.rulers[i] : now.minutes[i];
    }

    // ---- odds

    public int odds(int s) {
        return valley.hasSleeper(s) ? now.night.oddsOf(s) : UNKNOWN;
    }

    public int together(int set) {
        boolean known = set >= 0 && set < 1 << valley.houses;
        return known ? now.night.oddsOfHouses(set) : UNKNOWN;
    }

    public int best(int h, int what) {
        if (!valley.hasHouse(h)) {
            return UNKNOWN;
        }
        if (what < 0 || what > 1) {
            return OUTSIDE;
        }
        if (valley.sleepersOf(h) == 0) {
            return NOT;
        }
        planner.seekShift(now.night, h);
        return what == 0 ? planner.bestShift : planner.bestOdds;
    }

    public int rests(int h) {
        if (h != NONE && !valley.hasHouse(h)) {
            return UNKNOWN;
        }
        int rounds = planner.settle(now.night);
        if (h == NONE || rounds == NONE) {
            return rounds;
        }
        return planner.settledShift(h);
    }

    public int loud(int h, int what) {
        if (!valley.hasHouse(h)) {
            return UNKNOWN;
        }
        if (what < 0 || what > 2) {
            return OUTSIDE;
        }
        if (what == 0) {
            return Planner.BEST_NOISE_MINUTE;
        }
        planner.seekNoise(now.night, h);
        return what == 1 ? planner.bestLoudness : planner.bestOdds;
    }

    public int work(int h, int n) {
        if (!valley.hasHouse(h)) {
            return UNKNOWN;
        }
        if (n < 1 || n > MAX_WORK_DAYS) {
            return OUTSIDE;
        }
        lookAhead(h);
        for (int i = 0; i < n; i++) {
            prospect.goOnADay();
        }
        return (int) prospect.done;
    }

    public int likely(int h, int q) {
        if (!valley.hasHouse(h)) {
            return UNKNOWN;
        }
        if (q < 1 || q > 100) {
            return OUTSIDE;
        }
        lookAhead(h);
        for (int day = 1; day <= MAX_WORK_DAYS; day++) {
            prospect.goOnADay();
            if (prospect.done * 100 >= (long) q * BILLION) {
                return day;
            }
        }
        return NONE;
    }

    private void lookAhead(int h) {
        prospect.begin(valley.need[h], now.onEnd[h], now.night.oddsOfHouses(1 << h));
    }

    // ---- told rulers

    public int tell(int s, int minute) {
        if (!valley.hasSleeper(s)) {
            return UNKNOWN;
        }
        if (minute < 0 || minute > MAX_TOLD_MINUTE) {
            return OUTSIDE;
        }
        return words.add(s, minute) ? words.count : FULL;
    }

    public int forget() {
        int before = words.count;
        words.count = 0;
        return before;
    }

    public int lies() {
        return now.night.law == BY_LOT ? NOT : words.firstLie(now.night);
    }

    public int fits(int s, int i) {
        if (!valley.hasSleeper(s)) {
            return UNKNOWN;
        }
        return now.night.law == BY_LOT ? NOT : words.fitting(now.night, s, i);
    }

    // ---- draws, images

    public int seed(int v) {
        if (v < 0) {
            return OUTSIDE;
        }
        int before = now.seed;
        now.seed = v;
        return before;
    }

    public int keep(int i) {
        if (i < 0 || i >= IMAGES) {
            return UNKNOWN;
        }
        imageAt(i).copyFrom(now);
        imagesKept |= 1 << i;
        return 1;
    }

    public int goBack(int i) {
        if (i < 0 || i >= IMAGES) {
            return UNKNOWN;
        }
        if ((imagesKept >> i & 1) == 0) {
            return NOT;
        }
        now.copyFrom(imageAt(i));
        return 1;
    }

    private Course imageAt(int i) {
        return i == 0 ? firstImage : secondImage;
    }

    /** What the text tells: houses with their works, sleepers with their sleep. */
    private static final class Valley {
        int houses;
        final int[] need;
        final int[] worth;
        final int[] bed;
        int sleepers;
        final int[] home;
        final int[] wake;
        final int[] span;
        final int[] light;

        Valley() {
            need = new int[MAX_HOUSES];
            worth = new int[MAX_HOUSES];
            bed = new int[MAX_HOUSES];
            home = new int[MAX_SLEEPERS];
            wake = new int[MAX_SLEEPERS];
            span = new int[MAX_SLEEPERS];
            light = new int[MAX_SLEEPERS];
        }

        boolean hasHouse(int h) {
            return h >= 0 && h < houses;
        }

        boolean hasSleeper(int s) {
            return s >= 0 && s < sleepers;
        }

        int sleepersOf(int h) {
            int set = 0;
            for (int s = 0; s < sleepers; s++) {
                if (home[s] == h) {
                    set |= 1 << s;
                }
            }
            return set;
        }

        void copyFrom(Valley other) {
            houses = other.houses;
            System.arraycopy(other.need, 0, need, 0, MAX_HOUSES);
            System.arraycopy(other.worth, 0, worth, 0, MAX_HOUSES);
            System.arraycopy(other.bed, 0, bed, 0, MAX_HOUSES);
            sleepers = other.sleepers;
            System.arraycopy(other.home, 0, home, 0, MAX_SLEEPERS);
            System.arraycopy(other.wake, 0, wake, 0, MAX_SLEEPERS);
            System.arraycopy(other.span, 0, span, 0, MAX_SLEEPERS);
            System.arraycopy(other.light, 0, light, 0, MAX_SLEEPERS);
        }
    }

    /**
     * The text and its reading. It reads into a draft, so that a faulty text leaves the valley as
     * it was; behind the first fault nothing is read any more, so that the first one stays.
     */
    private static final class Reader {
        private static final String HOUSE = "house", SLEEPER = "sleeper";
        private static final int MISPLACED = 1, BAD_NUMBER = 2, TOO_MANY = 3;

        private final byte[] text;
        int length;
        final Valley draft;
        private int at;
        private int faultNumber;
        int faultByte;

        Reader() {
            text = new byte[MAX_BYTES];
            draft = new Valley();
            faultByte = NONE;
        }

        boolean append(int n, long bytes) {
            if (n > MAX_BYTES - length) {
                return false;
            }
            for (int i = n - 1; i >= 0; i--) {
                text[length] = (byte) (bytes >>> (8 * i));
                length++;
            }
            return true;
        }

        /** Answers the number of the first fault, 0 without; the text is used up either way. */
        int readAll() {
            draft.houses = 0;
            draft.sleepers = 0;
            at = 0;
            faultNumber = 0;
            faultByte = NONE;
            skipBlanks();
            // a clause takes bytes or is faulty, so there are no more clauses than bytes
            for (int clause = 0; clause < MAX_BYTES && at < length && faultNumber == 0; clause++) {
                readClause();
                skipBlanks();
            }
            length = 0;
            return faultNumber;
        }

        private void readClause() {
            int start = at;
            while (at < length && text[at] >= 'a' && text[at] <= 'z') {
                at++;
            }
            if (isWord(start, HOUSE)) {
                readHouse(start);
            } else if (isWord(start, SLEEPER)) {
                readSleeper(start);
            } else {
                note(MISPLACED, start);
            }
        }

        private boolean isWord(int start, String word) {
            if (at - start != word.length()) {
                return false;
            }
            for (int i = 0; i < word.length(); i++) {
                if (text[start + i] != word.charAt(i)) {
                    return false;
                }
            }
            return true;
        }

        private void readHouse(int start) {
            int h = draft.houses;
            if (h >= MAX_HOUSES) {
                note(TOO_MANY, start);
                return;
            }
            draft.need[h] = readNumber(1, MAX_NEED);
            draft.worth[h] = readNumber(0, MAX_NUMBER);
            draft.bed[h] = readNumber(0, MAX_BED);
            readEnd();
            draft.houses = h + 1;
        }

        private void readSleeper(int start) {
            int s = draft.sleepers;
            if (s >= MAX_SLEEPERS) {
                note(TOO_MANY, start);
                return;
            }
            draft.home[s] = readNumber(0, draft.houses - 1);
            draft.wake[s] = readNumber(MIN_WAKE, MAX_WAKE);
            draft.span[s] = readNumber(0, MAX_SPAN);
            draft.light[s] = readNumber(0, MAX_LIGHT);
            readEnd();
            draft.sleepers = s + 1;
        }

        private int readNumber(int least, int most) {
            if (faultNumber != 0) {
                return 0;
            }
            skipBlanks();
            int start = at;
            int value = 0;
            while (at < length && text[at] >= '0' && text[at] <= '9') {
                // figures beyond the third are a fault anyway and could overflow
                if (at - start < MAX_FIGURES) {
                    value = value * 10 + (text[at] - '0');
                }
                at++;
            }
            if (at == start) {
                note(MISPLACED, start);
            } else if (at - start > MAX_FIGURES || value < least || value > most) {
                note(BAD_NUMBER, start);
            }
            return value;
        }

        private void readEnd() {
            if (faultNumber != 0) {
                return;
            }
            skipBlanks();
            if (at < length && text[at] == ';') {
                at++;
            } else {
                note(MISPLACED, at);
            }
        }

        private void skipBlanks() {
            while (at < length && text[at] == ' ') {
                at++;
            }
        }

        private void note(int number, int where) {
            faultNumber = number;
            faultByte = where;
        }
    }

    /**
     * How all sleep: shifts, the noise and the law, and the odds that follow. The rows first, last
     * and roof follow from the others; whatever changes a shift or the noise lays them out anew.
     */
    private static final class Night {
        private static final int NO_ROOF = 1000000;

        private final Valley valley;
        final int[] shifted;
        int noiseHouse;
        int noiseMinute;
        int loudness;
        int law;
        private final int[] first;
        private final int[] last;
        /** The minute behind which the noise lets nobody sleep. */
        private final int[] roof;

        Night(Valley valley) {
            this.valley = valley;
            shifted = new int[MAX_SLEEPERS];
            noiseHouse = NONE;
            noiseMinute = NONE;
            loudness = NONE;
            first = new int[MAX_SLEEPERS];
            last = new int[MAX_SLEEPERS];
            roof = new int[MAX_SLEEPERS];
        }

        void beginAnew() {
            Arrays.fill(shifted, 0);
            law = BY_FIRST;
            makeNoise(NONE, NONE, NONE);
        }

        void copyFrom(Night other) {
            System.arraycopy(other.shifted, 0, shifted, 0, MAX_SLEEPERS);
            law = other.law;
            makeNoise(other.noiseHouse, other.noiseMinute, other.loudness);
        }

        boolean isNoisy() {
            return noiseHouse != NONE;
        }

        /** All three NONE: silence. */
        void makeNoise(int h, int minute, int loud) {
            noiseHouse = h;
            noiseMinute = minute;
            loudness = loud;
            for (int s = 0; s < valley.sleepers; s++) {
                layOut(s);
            }
        }

        void shiftOne(int s, int k) {
            shifted[s] = k;
            layOut(s);
        }

        /** Answers whether that changed anything. */
        boolean shiftHouse(int h, int k) {
            boolean changed = false;
            for (int s = 0; s < valley.sleepers; s++) {
                if (valley.home[s] == h && shifted[s] != k) {
                    shiftOne(s, k);
                    changed = true;
                }
            }
            return changed;
        }

        private void layOut(int s) {
            int middle = valley.wake[s] - shifted[s];
            first[s] = middle - valley.span[s];
            last[s] = middle + valley.span[s];
            boolean reached = noiseHouse != NONE && valley.home[s] != noiseHouse && valley.light[s] < loudness;
            roof[s] = reached ? noiseMinute : NO_ROOF;
        }

        int heard(int s, int minute) {
            return minute < roof[s] ? minute : roof[s];
        }

        int minuteAt(int s, int place) {
            return heard(s, first[s] + place);
        }

        int firstMinute(int s) {
            return heard(s, first[s]);
        }

        int lastMinute(int s) {
            return heard(s, last[s]);
        }

        int oddsOfHouses(int set) {
            int sum = 0;
            for (int s = 0; s < valley.sleepers; s++) {
                if ((set >> valley.home[s] & 1) != 0) {
                    sum += oddsOf(s);
                }
            }
            return sum;
        }

        int oddsOf(int s) {
            if (law == BY_LOT) {
                return valley.sleepers > 0 ? BILLION / valley.sleepers : 0;
            }
            int sum = 0;
            for (int minute = first[s]; minute <= last[s]; minute++) {
                // an odd divisor is never 0
                long part = BILLION / (2 * valley.span[s] + 1);
                int at = heard(s, minute);
                for (int other = 0; other < valley.sleepers && part != 0; other++) {
                    if (other != s) {
                        part = part * letting(other, s, at) / (2 * valley.span[other] + 1);
                    }
                }
                sum += (int) part;
                // by the first, later minutes are let rule by no more than earlier ones
                if (part == 0 && law == BY_FIRST) {
                    break;
                }
            }
            return sum;
        }

        /** How many of the other's minutes let a sleeper rule that wakes at a minute. */
        private int letting(int other, int s, int minute) {
            int early = first[other];
            int late = last[other];
            if (law == BY_FIRST) {
                int from = other > s ? minute : minute + 1;
                if (from > roof[other] || from > late) {
                    return 0;
                }
                return from > early ? late - from + 1 : late - early + 1;
            }
            int till = other > s ? minute : minute - 1;
            if (till >= roof[other] || till >= late) {
                return late - early + 1;
            }
            return till < early ? 0 : till - early + 1;
        }

        boolean mayRuleAt(int s, int minute) {
            if (minute < firstMinute(s) || minute > lastMinute(s)) {
                return false;
            }
            for (int other = 0; other < valley.sleepers; other++) {
                if (other != s && letting(other, s, minute) == 0) {
                    return false;
                }
            }
            return true;
        }
    }

    /** What goes on from day to day; an image is one more of these. */
    private static final class Course {
        private final Valley valley;
        final Night night;
        int day;
        final int[] onEnd;
        final int[] done;
        int had;
        int kept;
        final int[] rulers;
        final int[] minutes;
        int seed;
        private final int[] awake;

        Course(Valley valley) {
            this.valley = valley;
            night = new Night(valley);
            onEnd = new int[MAX_HOUSES];
            done = new int[MAX_HOUSES];
            rulers = new int[MAX_KEPT];
            minutes = new int[MAX_KEPT];
            awake = new int[MAX_SLEEPERS];
        }

        /** A new valley; the seed goes on. */
        void beginAnew() {
            night.beginAnew();
            day = 0;
            Arrays.fill(onEnd, 0);
            Arrays.fill(done, 0);
            had = 0;
            kept = 0;
        }

        void copyFrom(Course other) {
            night.copyFrom(other.night);
            day = other.day;
            System.arraycopy(other.onEnd, 0, onEnd, 0, MAX_HOUSES);
            System.arraycopy(other.done, 0, done, 0, MAX_HOUSES);
            had = other.had;
            kept = other.kept;
            System.arraycopy(other.rulers, 0, rulers, 0, kept);
            System.arraycopy(other.minutes, 0, minutes, 0, kept);
            seed = other.seed;
        }

        /** Only in a valley with sleepers; answers the ruler. */
        int liveDay() {
            for (int s = 0; s < valley.sleepers; s++) {
                awake[s] = night.minuteAt(s, draw(2 * valley.span[s] + 1));
            }
            int who = night.law == BY_LOT ? draw(valley.sleepers) : whoIsAhead();
            day++;
            keepRuler(who);
            countDayOf(valley.home[who]);
            return who;
        }

        private int draw(int n) {
            seed = (int) ((seed * 1103515245L + 12345L) & 0x7fffffffL);
            return n > 0 ? seed / 65536 % n : 0;
        }

        private int whoIsAhead() {
            int who = 0;
            for (int s = 1; s < valley.sleepers; s++) {
                boolean ahead = night.law == BY_LAST ? awake[s] > awake[who] : awake[s] < awake[who];
                if (ahead) {
                    who = s;
                }
            }
            return who;
        }

        private void keepRuler(int who) {
            if (kept < MAX_KEPT) {
                rulers[kept] = who;
                minutes[kept] = awake[who];
                kept++;
            }
        }

        private void countDayOf(int h) {
            int count = onEnd[h] + 1;
            Arrays.fill(onEnd, 0);
            if (count >= valley.need[h]) {
                done[h]++;
                had += valley.worth[h];
            } else {
                onEnd[h] = count;
            }
        }
    }

    /** Looks for shifts and noises on nights of its own, so that what is so stays. */
    private static final class Planner {
        /**
         * A house's own noise wakes only others, and only earlier. That never raises its odds by
         * the first; by the last the earliest minute raises them most; by lot it changes nothing.
         * So the least minute is the best one always, and only the loudness is left to look for.
         */
        static final int BEST_NOISE_MINUTE = 60;
        private static final int SHIFT_STEP = 10, MAX_ROUNDS = 20;

        private final Valley valley;
        private final Night plan;
        private final Night trial;
        private final int[] codes;
        int bestShift;
        int bestLoudness;
        int bestOdds;

        Planner(Valley valley) {
            this.valley = valley;
            plan = new Night(valley);
            trial = new Night(valley);
            codes = new int[MAX_ROUNDS];
        }

        void seekShift(Night from, int h) {
            trial.copyFrom(from);
            long bestGain = 0;
            for (int k = 0; k <= valley.bed[h]; k += SHIFT_STEP) {
                trial.shiftHouse(h, k);
                int part = trial.oddsOfHouses(1 << h);
                long gain = (long) part * valley.worth[h] / BILLION - k;
                if (k == 0 || gain > bestGain) {
                    bestGain = gain;
                    bestShift = k;
                    bestOdds = part;
                }
            }
        }

        void seekNoise(Night from, int h) {
            trial.copyFrom(from);
            for (int loud = 0; loud <= MAX_LOUDNESS; loud++) {
                trial.makeNoise(h, BEST_NOISE_MINUTE, loud);
                int part = trial.oddsOfHouses(1 << h);
                if (loud == 0 || part > bestOdds) {
                    bestLoudness = loud;
                    bestOdds = part;
                }
            }
        }

        /** How many rounds changed something till one changed nothing; NONE: never. */
        int settle(Night from) {
            plan.copyFrom(from);
            for (int round = 0; round < MAX_ROUNDS; round++) {
                if (!playRound()) {
                    return round;
                }
                codes[round] = codeOfPlan();
                if (wasThere(round)) {
                    return NONE;
                }
            }
            return NONE;
        }

        private boolean playRound() {
            boolean changed = false;
            for (int h = 0; h < valley.houses; h++) {
                if (valley.sleepersOf(h) != 0) {
                    seekShift(plan, h);
                    changed |= plan.shiftHouse(h, bestShift);
                }
            }
            return changed;
        }

        /** Behind a round every shift is one of seven tens, so that one number tells them all. */
        private int codeOfPlan() {
            int code = 0;
            for (int s = 0; s < valley.sleepers; s++) {
                code = code * 7 + plan.shifted[s] / SHIFT_STEP;
            }
            return code;
        }

        /** The same shifts again are followed by the same rounds again, without an end. */
        private boolean wasThere(int round) {
            for (int i = 0; i < round; i++) {
                if (codes[i] == codes[round]) {
                    return true;
                }
            }
            return false;
        }

        int settledShift(int h) {
            for (int s = 0; s < valley.sleepers; s++) {
                if (valley.home[s] == h) {
                    return plan.shifted[s];
                }
            }
            return 0;
        }
    }

    /** The odds that a work is done, day by day. */
    private static final class Prospect {
        private final long[] parts;
        private int need;
        private long dayOdds;
        long done;

        Prospect() {
            parts = new long[MAX_NEED];
        }

        void begin(int days, int onEnd, int odds) {
            Arrays.fill(parts, 0);
            need = days;
            dayOdds = odds;
            done = 0;
            if (onEnd >= 0 && onEnd < MAX_NEED) {
                parts[onEnd] = BILLION;
            }
        }

        void goOnADay() {
            long thrownBack = 0;
            // from the highest count down, so that no part moves twice in a day
            for (int count = need - 1; count >= 0; count--) {
                long ruling = parts[count] * dayOdds / BILLION;
                thrownBack += parts[count] - ruling;
                if (count == need - 1) {
                    done += ruling;
                } else {
                    parts[count + 1] = ruling;
                }
            }
            parts[0] = thrownBack;
        }
    }

    /** Rulers that were told. */
    private static final class Words {
        int count;
        private final int[] who;
        private final int[] minutes;
        private final Night trial;

        Words(Valley valley) {
            who = new int[MAX_TOLD];
            minutes = new int[MAX_TOLD];
            trial = new Night(valley);
        }

        boolean add(int s, int minute) {
            if (count >= MAX_TOLD) {
                return false;
            }
            who[count] = s;
            minutes[count] = minute;
            count++;
            return true;
        }

        int firstLie(Night night) {
            for (int i = 0; i < count; i++) {
                if (!night.mayRuleAt(who[i], minutes[i])) {
                    return i;
                }
            }
            return NONE;
        }

        int fitting(Night night, int s, int wanted) {
            trial.copyFrom(night);
            int found = 0;
            for (int k = 0; k <= MAX_BED; k++) {
                if (k == night.shifted[s]) {
                    continue;
                }
                trial.shiftOne(s, k);
                if (allTrueOf(s)) {
                    if (found == wanted) {
                        return k;
                    }
                    found++;
                }
            }
            return wanted == NONE ? found : NONE;
        }

        private boolean allTrueOf(int s) {
            for (int i = 0; i < count; i++) {
                if (who[i] == s && !trial.mayRuleAt(s, minutes[i])) {
                    return false;
                }
            }
            return true;
        }
    }
}
