/**
 * A pancake on the run, as ../shared/DOC.md tells it: a lane, its runners, their tosses and the
 * odds of coming home. Words in capitals in the comments are the document's.
 */
public final class PancakeRun {
    public static final int BAD = -1, STATE = -2, FULL = -3, NONE = -9;
    public static final int NO = -1000000;

    private static final int MOST_YARDS = 24;
    private static final int MOST_RUNNERS = 3;
    private static final int MOST_NEED = 4;
    private static final int MOST_BEATS = 24;
    private static final int MOST_UP = 4;
    private static final int MOST_FORWARD = 9;
    private static final int MOST_TURN = 7;
    private static final int STANDING = 0;
    private static final int RUNNING = 1;
    private static final int BEFORE_FAULT = -10;

    private final Reader reader = new Reader();
    private final Text text = reader.text;
    private final Runners now = new Runners();
    private final Image firstImage = new Image();
    private final Image secondImage = new Image();
    private final Acts acts = new Acts();
    private final Pictures pictures = new Pictures();
    private final BestToss bestToss = new BestToss();
    private final OddsTable table = new OddsTable();
    private Lane course = new Lane();
    private Lane spareCourse = new Lane();
    private long traced = 0;

    public PancakeRun() {
    }

    // ---- the lane

    public int type(long v, int n) {
        if (n < 1 || n > 8) {
            return BAD;
        }
        if (text.length > Text.MOST - n) {
            return FULL;
        }
        for (int i = n - 1; i >= 0; i--) {
            text.append((int) (v >>> (8 * i)) & 255);
        }
        return text.length;
    }

    public int clear() {
        int had = text.length;
        text.length = 0;
        return had;
    }

    public int lane() {
        int items = reader.readInto(spareCourse);
        if (items == Reader.FAULTY) {
            return BEFORE_FAULT - reader.fault();
        }
        Lane old = course;
        course = spareCourse;
        spareCourse = old;
        text.length = 0;
        now.begin();
        acts.known = 0;
        pictures.known = 0;
        firstImage.kept = false;
        secondImage.kept = false;
        return items;
    }

    public int yard(int y, int what) {
        if (!course.isYard(y) || what < 0 || what > 1) {
            return BAD;
        }
        return what == 0 ? course.windAt(y) : course.isWet(y) ? 1 : 0;
    }

    public int told(int what) {
        switch (what) {
            case 0:
                return course.yards;
            case 1:
                return course.rope;
            case 2:
                return course.need;
            case 3:
                return course.drop;
            default:
                return BAD;
        }
    }

    public int runner(int r, int what) {
        if (!course.isRunner(r)) {
            return BAD;
        }
        switch (what) {
            case 0:
                return course.paceOf(r);
            case 1:
                return course.panOf(r);
            case 2:
                return now.yardOf(r);
            case 3:
                return now.beatsOf(r);
            case 4:
                return now.goodOf(r);
            case 5:
                return isHome(r) ? 1 : 0;
            default:
                return BAD;
        }
    }

    // ---- tosses

    public int comes(int r, int y, int up, int forward, int turn, int runs, int what) {
        if (!course.isRunner(r) || !course.isYard(y) || !isToss(up, forward, turn, runs)) {
            return NO;
        }
        switch (what) {
            case 0:
                return course.comesDown(y, up, forward);
            case 1:
                return course.yardAfter(r, y, up, runs);
            case 2:
                return quarters(up, turn);
            case 3:
                return isTurned(up, turn) ? 1 : 0;
            case 4:
                return course.catchOf(r, y, up, forward, turn, runs);
            default:
                return NO;
        }
    }

    public int best(int r, int y, int runs, int what) {
        if (!course.isRunner(r) || !course.isYard(y) || !isBit(runs) || !isBit(what)) {
            return BAD;
        }
        bestToss.find(course, r, y, runs);
        return what == 0 ? bestToss.caughtInTen : bestToss.number();
    }

    // ---- a run

    public int runs(int r, int n) {
        if (!course.isRunner(r) || n < 1 || n > 9) {
            return BAD;
        }
        if (isAtEnd(r)) {
            return STATE;
        }
        acts.remember(r, now);
        int to = course.yardOnRun(r, now.yardOf(r), n);
        now.put(r, to, now.beatsOf(r) + n, now.goodOf(r));
        return to;
    }

    public int toss(int r, int up, int forward, int turn, int runs) {
        if (!course.isRunner(r) || !isToss(up, forward, turn, runs)) {
            return BAD;
        }
        if (isAtEnd(r)) {
            return STATE;
        }
        acts.remember(r, now);
        int y = now.yardOf(r);
        boolean caught = now.draw() < course.catchOf(r, y, up, forward, turn, runs);
        boolean good = caught && isTurned(up, turn) && up >= course.rope;
        int beats = now.beatsOf(r) + beatsInAir(up) + (caught ? 0 : course.drop);
        now.put(r, course.yardAfter(r, y, up, runs), beats, now.goodOf(r) + (good ? 1 : 0));
        return good ? 2 : caught ? 1 : 0;
    }

    public int undo() {
        if (acts.known == 0) {
            return STATE;
        }
        acts.takeBackLast(now);
        return acts.known;
    }

    public int lot(int v) {
        int was = now.lot;
        now.lot = v;
        return was;
    }

    public int home(int what) {
        if (!isBit(what)) {
            return BAD;
        }
        return what == 0 ? homeBits() : firstHome();
    }

    // ---- odds

    public long odds(int r, int b, int what) {
        if (!course.isRunner(r) || b < 0 || b > MOST_BEATS || !isBit(what)) {
            return BAD;
        }
        table.fill(course, r, bestToss);
        return inLeastTerms(oddsBy(r, b), OddsTable.CERTAIN, what);
    }

    public int enough(int r, int c) {
        if (!course.isRunner(r) || c < 0 || c > 10) {
            return BAD;
        }
        table.fill(course, r, bestToss);
        for (int b = 0; b <= MOST_BEATS; b++) {
            if (oddsBy(r, b) * 10 >= c * OddsTable.CERTAIN) {
                return b;
            }
        }
        return NONE;
    }

    // ---- pictures, towns

    public int picture(int b, int q) {
        if (b < 1 || b > 8 || q < 0 || q > 3) {
            return BAD;
        }
        if (pictures.known >= Pictures.MOST) {
            return FULL;
        }
        pictures.append(b, q);
        return pictures.known;
    }

    public int forget() {
        int had = pictures.known;
        pictures.known = 0;
        return had;
    }

    public int could(int what) {
        if (!isBit(what)) {
            return BAD;
        }
        int pairs = 0;
        for (int up = 1; up <= MOST_UP; up++) {
            for (int turn = 0; turn <= MOST_TURN; turn++) {
                if (pictures.allow(up, turn) && (what == 0 || isTurned(up, turn))) {
                    pairs++;
                }
            }
        }
        return pairs;
    }

    public int towns(int a, int x, int b, int y, int what) {
        if (!isClock(a, x) || !isClock(b, y) || !isBit(what)) {
            return BAD;
        }
        int timesOfOther = 2 * y + 1;
        int won = 0;
        for (int time = a - x; time <= a + x; time++) {
            won += Math.max(0, Math.min(timesOfOther, b + y - time));
        }
        return (int) inLeastTerms(won, (2 * x + 1) * timesOfOther, what);
    }

    // ---- kinds, images

    public int rate(int kind, int up, int turn) {
        if (up < 1 || up > MOST_UP || turn < 0 || turn > MOST_TURN) {
            return NO;
        }
        switch (kind) {
            case 0:
                return rateToss(up);
            case 1:
                return rateStanding(up, turn);
            case 2:
                return rateRunning(up, turn);
            case 3:
                return rateFolded(up, turn);
            case 4:
                return rateDropped(up, turn);
            case 5:
                return rateLow(up);
            default:
                return NO;
        }
    }

    public int keep(int image) {
        if (!isBit(image)) {
            return BAD;
        }
        Image kept = imageOf(image);
        kept.runners.copyFrom(now);
        kept.kept = true;
        return Integer.bitCount(homeBits());
    }

    public int back(int image) {
        if (!isBit(image)) {
            return BAD;
        }
        Image kept = imageOf(image);
        if (!kept.kept) {
            return STATE;
        }
        now.copyFrom(kept.runners);
        acts.known = 0;
        return Integer.bitCount(homeBits());
    }

    public int count(int what) {
        switch (what) {
            case 0:
                return course.runners;
            case 1:
                return pictures.known;
            case 2:
                return acts.known;
            case 3:
                return text.length;
            default:
                return BAD;
        }
    }

    public long trace() {
        return traced;
    }

    // ---- what the calls share

    private boolean isAtEnd(int r) {
        return now.yardOf(r) >= course.yards;
    }

    private boolean isHome(int r) {
        return isAtEnd(r) && now.goodOf(r) >= course.need;
    }

    private int homeBits() {
        int bits = 0;
        for (int r = 0; r < course.runners; r++) {
            if (isHome(r)) {
                bits |= 1 << r;
            }
        }
        return bits;
    }

    private int firstHome() {
        int first = NONE;
        int fewest = 0;
        for (int r = 0; r < course.runners; r++) {
            if (isHome(r) && (first == NONE || now.beatsOf(r) < fewest)) {
                first = r;
                fewest = now.beatsOf(r);
            }
        }
        return first;
    }

    private long oddsBy(int r, int b) {
        int missing = Math.max(0, course.need - now.goodOf(r));
        return table.chance(b - now.beatsOf(r), now.yardOf(r), missing);
    }

    private Image imageOf(int image) {
        return image == 0 ? firstImage : secondImage;
    }

    private int rateToss(int up) {
        traced += 1;
        return beatsInAir(up);
    }

    private int rateStanding(int up, int turn) {
        traced += 10;
        return rateToss(up) + quarters(up, turn);
    }

    private int rateRunning(int up, int turn) {
        traced += 100;
        return rateToss(up) - turn;
    }

    private int rateFolded(int up, int turn) {
        traced += 1000;
        return 2 * rateStanding(up, turn);
    }

    private int rateDropped(int up, int turn) {
        traced += 10000;
        return rateRunning(up, turn) + course.drop;
    }

    private int rateLow(int up) {
        traced += 100000;
        return rateToss(up) - course.rope;
    }

    private static boolean isBit(int what) {
        return what == 0 || what == 1;
    }

    private static boolean isClock(int time, int slip) {
        return time >= 0 && time <= 999 && slip >= 0 && slip <= 99;
    }

    private static boolean isToss(int up, int forward, int turn, int runs) {
        return up >= 1 && up <= MOST_UP && forward >= 0 && forward <= MOST_FORWARD
            && turn >= 0 && turn <= MOST_TURN && isBit(runs);
    }

    private static int beatsInAir(int up) {
        return 2 * up;
    }

    private static int quarters(int up, int turn) {
        return turn * up;
    }

    private static boolean isTurned(int up, int turn) {
        return quarters(up, turn) % 4 == 2;
    }

    /** The upper (what = 0) or lower number of a fraction whose lower number is above 0. */
    private static long inLeastTerms(long upper, long lower, int what) {
        long divisor = lower;
        long rest = upper;
        // Euclid's steps for numbers up to 10 to the 12th stay far below 100.
        for (int step = 0; step < 100 && rest != 0; step++) {
            long next = divisor % rest;
            divisor = rest;
            rest = next;
        }
        if (divisor == 0) {
            return 0;
        }
        return (what == 0 ? upper : lower) / divisor;
    }

    /** THE TEXT, byte by byte. */
    private static final class Text {
        static final int MOST = 300;

        private final int[] bytes = new int[MOST];
        private int length = 0;

        void append(int value) {
            if (length >= 0 && length < bytes.length) {
                bytes[length] = value;
                length++;
            }
        }

        int byteAt(int place) {
            return place >= 0 && place < length && place < bytes.length ? bytes[place] : 0;
        }

        /** Whether word is all that stands from a place on, up to an end. */
        boolean holds(String word, int from, int end) {
            if (from < 0 || end > bytes.length || end - from != word.length()) {
                return false;
            }
            for (int i = 0; i < word.length(); i++) {
                if (bytes[from + i] != word.charAt(i)) {
                    return false;
                }
            }
            return true;
        }
    }

    /** Reads THE TEXT TOKEN by TOKEN into a Lane, up to the first that can't stand there. */
    private static final class Reader {
        static final int FAULTY = -1;

        private static final int END = 0, LANE = 1, WIND = 2, WET = 3, RUNNER = 4, ROPE = 5;
        private static final int NEED = 6, DROP = 7, NUMBER = 8, SEMICOLON = 9, WRONG = 10;

        private final Text text = new Text();
        private int place = 0;
        private int start = 0;
        private int token = END;
        private int number = 0;
        private int toldOnce = 0;

        /** How many ITEMS; FAULTY, if there is a fault. */
        int readInto(Lane course) {
            course.begin();
            place = 0;
            toldOnce = 0;
            for (int items = 0; items <= Text.MOST; items++) {
                readToken();
                if (token == END) {
                    return items;
                }
                int word = token;
                if (!mayBegin(course, items)
                    || !readNumber(leastFirst(word), mostFirst(word, course))) {
                    return FAULTY;
                }
                int first = number;
                if (word == WIND && !readNumber(1, 3) || word == RUNNER && !readNumber(0, 9)) {
                    return FAULTY;
                }
                tell(course, word, first, number);
                readToken();
                if (token != SEMICOLON) {
                    return FAULTY;
                }
            }
            return FAULTY;
        }

        /** The place of the TOKEN at which reading ended. */
        int fault() {
            return start;
        }

        private boolean mayBegin(Lane course, int itemsAhead) {
            switch (token) {
                case LANE:
                    return itemsAhead == 0;
                case WIND:
                case WET:
                    return true;
                case RUNNER:
                    return course.runners < MOST_RUNNERS;
                case ROPE:
                case NEED:
                case DROP:
                    return (toldOnce & 1 << token) == 0;
                default:
                    return false;
            }
        }

        private static int leastFirst(int word) {
            switch (word) {
                case LANE:
                    return 4;
                case WIND:
                case WET:
                    return 0;
                default:
                    return 1;
            }
        }

        private static int mostFirst(int word, Lane course) {
            switch (word) {
                case LANE:
                    return MOST_YARDS;
                case WIND:
                case WET:
                    return course.yards - 1;
                case RUNNER:
                    return 4;
                case ROPE:
                    return 3;
                case NEED:
                    return MOST_NEED;
                default:
                    return 9;
            }
        }

        private void tell(Lane course, int word, int first, int second) {
            toldOnce |= 1 << word;
            switch (word) {
                case LANE:
                    course.yards = first;
                    break;
                case WIND:
                    course.setWind(first, second);
                    break;
                case WET:
                    course.setWet(first);
                    break;
                case RUNNER:
                    course.addRunner(first, second);
                    break;
                case ROPE:
                    course.rope = first;
                    break;
                case NEED:
                    course.need = first;
                    break;
                default:
                    course.drop = first;
            }
        }

        private boolean readNumber(int least, int most) {
            readToken();
            return token == NUMBER && number >= least && number <= most;
        }

        private void readToken() {
            skipBlanks();
            start = place;
            if (place >= text.length) {
                token = END;
                return;
            }
            int first = text.byteAt(place);
            if (isLetter(first)) {
                readWord();
            } else if (isDigit(first)) {
                readDigits();
            } else {
                place++;
                token = first == ';' ? SEMICOLON : WRONG;
            }
        }

        private void skipBlanks() {
            while (place < text.length && text.byteAt(place) == ' ') {
                place++;
            }
        }

        private void readWord() {
            while (place < text.length && isLetter(text.byteAt(place))) {
                place++;
            }
            if (text.holds("lane", start, place)) {
                token = LANE;
            } else if (text.holds("wind", start, place)) {
                token = WIND;
            } else if (text.holds("wet", start, place)) {
                token = WET;
            } else if (text.holds("runner", start, place)) {
                token = RUNNER;
            } else if (text.holds("rope", start, place)) {
                token = ROPE;
            } else if (text.holds("need", start, place)) {
                token = NEED;
            } else if (text.holds("drop", start, place)) {
                token = DROP;
            } else {
                token = WRONG;
            }
        }

        private void readDigits() {
            number = 0;
            while (place < text.length && isDigit(text.byteAt(place))) {
                // A row of 300 digits must not wrap to a small number: all above 99 are alike.
                number = Math.min(100, number * 10 + text.byteAt(place) - '0');
                place++;
            }
            boolean zeroAhead = text.byteAt(start) == '0' && place - start > 1;
            token = zeroAhead || number > 99 ? WRONG : NUMBER;
        }

        private static boolean isLetter(int value) {
            return value >= 'a' && value <= 'z';
        }

        private static boolean isDigit(int value) {
            return value >= '0' && value <= '9';
        }
    }

    /** What THE TEXT tells, and what follows from that alone. */
    private static final class Lane {
        private final int[] wind = new int[MOST_YARDS];
        private final boolean[] wet = new boolean[MOST_YARDS];
        private final int[] pace = new int[MOST_RUNNERS];
        private final int[] pan = new int[MOST_RUNNERS];
        private int yards = 12;
        private int runners = 0;
        private int rope = 2;
        private int need = 3;
        private int drop = 3;

        void begin() {
            for (int y = 0; y < wind.length && y < wet.length; y++) {
                wind[y] = 0;
                wet[y] = false;
            }
            yards = 12;
            runners = 0;
            rope = 2;
            need = 3;
            drop = 3;
        }

        void setWind(int y, int strength) {
            if (y >= 0 && y < wind.length) {
                wind[y] = strength;
            }
        }

        void setWet(int y) {
            if (y >= 0 && y < wet.length) {
                wet[y] = true;
            }
        }

        void addRunner(int ofPace, int ofPan) {
            if (runners >= 0 && runners < pace.length && runners < pan.length) {
                pace[runners] = ofPace;
                pan[runners] = ofPan;
                runners++;
            }
        }

        boolean isYard(int y) {
            return y >= 0 && y < yards;
        }

        boolean isRunner(int r) {
            return r >= 0 && r < runners;
        }

        int windAt(int y) {
            return y >= 0 && y < wind.length ? wind[y] : 0;
        }

        boolean isWet(int y) {
            // The end is not wet, and a YARD behind it has no place in the row.
            return isYard(y) && y < wet.length && wet[y];
        }

        int paceOf(int r) {
            return r >= 0 && r < pace.length ? pace[r] : 0;
        }

        int panOf(int r) {
            return r >= 0 && r < pan.length ? pan[r] : 0;
        }

        int yardOnRun(int r, int y, int beats) {
            return Math.min(yards, y + paceOf(r) * beats);
        }

        int comesDown(int y, int up, int forward) {
            return y + forward - up * windAt(y);
        }

        int yardAfter(int r, int y, int up, int runs) {
            return runs == RUNNING ? yardOnRun(r, y, beatsInAir(up)) : y;
        }

        int catchOf(int r, int y, int up, int forward, int turn, int runs) {
            int where = yardAfter(r, y, up, runs);
            int off = Math.abs(comesDown(y, up, forward) - where);
            int inTen = panOf(r) + 3 - 3 * off;
            if (quarters(up, turn) % 2 != 0) {
                inTen -= 2;
            }
            if (isWet(where)) {
                inTen -= 2;
            }
            return Math.max(0, Math.min(10, inTen));
        }
    }

    /** Where RUNNERS are, and THE LOT: what an IMAGE keeps. */
    private static final class Runners {
        private final int[] yard = new int[MOST_RUNNERS];
        private final int[] beats = new int[MOST_RUNNERS];
        private final int[] good = new int[MOST_RUNNERS];
        private int lot = 1;

        /** All stand at YARD 0 again; THE LOT stays. */
        void begin() {
            for (int r = 0; r < MOST_RUNNERS; r++) {
                put(r, 0, 0, 0);
            }
        }

        void copyFrom(Runners other) {
            for (int r = 0; r < MOST_RUNNERS; r++) {
                put(r, other.yardOf(r), other.beatsOf(r), other.goodOf(r));
            }
            lot = other.lot;
        }

        void put(int r, int toYard, int toBeats, int toGood) {
            if (r >= 0 && r < yard.length && r < beats.length && r < good.length) {
                yard[r] = toYard;
                beats[r] = toBeats;
                good[r] = toGood;
            }
        }

        int yardOf(int r) {
            return r >= 0 && r < yard.length ? yard[r] : 0;
        }

        int beatsOf(int r) {
            return r >= 0 && r < beats.length ? beats[r] : 0;
        }

        int goodOf(int r) {
            return r >= 0 && r < good.length ? good[r] : 0;
        }

        /** THE LOT goes on: DRAW. */
        int draw() {
            lot = lot * 1103515245 + 12345;
            return (lot >>> 16) % 10;
        }
    }

    private static final class Image {
        private final Runners runners = new Runners();
        private boolean kept = false;
    }

    /** How RUNNERS were ahead of the last acts, the oldest first. */
    private static final class Acts {
        private static final int MOST = 10;

        private final int[] runner = new int[MOST];
        private final int[] yard = new int[MOST];
        private final int[] beats = new int[MOST];
        private final int[] good = new int[MOST];
        private int known = 0;

        void remember(int r, Runners before) {
            if (known >= MOST) {
                loseOldest();
            }
            if (known >= 0 && known < MOST) {
                runner[known] = r;
                yard[known] = before.yardOf(r);
                beats[known] = before.beatsOf(r);
                good[known] = before.goodOf(r);
                known++;
            }
        }

        void takeBackLast(Runners now) {
            if (known > 0 && known <= MOST) {
                known--;
                now.put(runner[known], yard[known], beats[known], good[known]);
            }
        }

        private void loseOldest() {
            for (int i = 1; i < MOST; i++) {
                runner[i - 1] = runner[i];
                yard[i - 1] = yard[i];
                beats[i - 1] = beats[i];
                good[i - 1] = good[i];
            }
            known = MOST - 1;
        }
    }

    /** The BEST toss that was looked for last. */
    private static final class BestToss {
        private int caughtInTen = 0;
        private int up = 0;
        private int forward = 0;
        private int turn = 0;

        void find(Lane course, int r, int y, int runs) {
            caughtInTen = -1;
            for (int u = course.rope; u <= MOST_UP; u++) {
                int t = leastTurnOver(u);
                // All turns by which it is TURNED are caught alike, so the least stands for them.
                for (int f = 0; t <= MOST_TURN && f <= MOST_FORWARD; f++) {
                    int inTen = course.catchOf(r, y, u, f, t, runs);
                    if (inTen > caughtInTen) {
                        caughtInTen = inTen;
                        up = u;
                        forward = f;
                        turn = t;
                    }
                }
            }
        }

        int number() {
            return 100 * up + 10 * forward + turn;
        }

        /** The least TURN by which it is TURNED; above MOST_TURN, if none does. */
        private static int leastTurnOver(int u) {
            int t = 0;
            while (t <= MOST_TURN && !isTurned(u, t)) {
                t++;
            }
            return t;
        }
    }

    /**
     * The chance to be HOME by BEATS left, YARD and GOOD ones missing. Chances are whole numbers of
     * CERTAIN: in 24 BEATS there are at most 12 TOSSES, each a tenth, so all divisions are even.
     */
    private static final class OddsTable {
        static final long CERTAIN = 1000000000000L;

        private final long[] chances =
            new long[(MOST_BEATS + 1) * (MOST_YARDS + 1) * (MOST_NEED + 1)];
        private final int[] caughtStanding = new int[MOST_YARDS];
        private final int[] caughtRunning = new int[MOST_YARDS];
        private final int[] upStanding = new int[MOST_YARDS];
        private final int[] upRunning = new int[MOST_YARDS];

        void fill(Lane course, int r, BestToss best) {
            for (int y = 0; y < course.yards && y < MOST_YARDS; y++) {
                best.find(course, r, y, STANDING);
                caughtStanding[y] = best.caughtInTen;
                upStanding[y] = best.up;
                best.find(course, r, y, RUNNING);
                caughtRunning[y] = best.caughtInTen;
                upRunning[y] = best.up;
            }
            for (int left = 0; left <= MOST_BEATS; left++) {
                for (int y = 0; y <= course.yards; y++) {
                    for (int missing = 0; missing <= course.need; missing++) {
                        setChance(left, y, missing, bestChance(course, r, left, y, missing));
                    }
                }
            }
        }

        long chance(int left, int y, int missing) {
            int place = placeOf(left, y, missing);
            return place >= 0 && place < chances.length ? chances[place] : 0;
        }

        private void setChance(int left, int y, int missing, long chance) {
            int place = placeOf(left, y, missing);
            if (place >= 0 && place < chances.length) {
                chances[place] = chance;
            }
        }

        /** -1, if more BEATS went by than there were. */
        private static int placeOf(int left, int y, int missing) {
            if (left < 0 || left > MOST_BEATS || y < 0 || y > MOST_YARDS
                || missing < 0 || missing > MOST_NEED) {
                return -1;
            }
            return (left * (MOST_YARDS + 1) + y) * (MOST_NEED + 1) + missing;
        }

        private long bestChance(Lane course, int r, int left, int y, int missing) {
            if (y < 0 || y >= course.yards || y >= MOST_YARDS) {
                return missing == 0 ? CERTAIN : 0;
            }
            long byRun = chance(left - 1, course.yardOnRun(r, y, 1), missing);
            long byStanding = chanceByToss(course, y, left - beatsInAir(upStanding[y]),
                missing, caughtStanding[y]);
            long byRunning = chanceByToss(course, course.yardAfter(r, y, upRunning[y], RUNNING),
                left - beatsInAir(upRunning[y]), missing, caughtRunning[y]);
            return Math.max(byRun, Math.max(byStanding, byRunning));
        }

        private long chanceByToss(Lane course, int where, int left, int missing, int inTen) {
            long caught = chance(left, where, Math.max(0, missing - 1));
            long dropped = chance(left - course.drop, where, missing);
            return (inTen * caught + (10 - inTen) * dropped) / 10;
        }
    }

    /** PICTURES of a TOSS in the air. */
    private static final class Pictures {
        static final int MOST = 6;

        private final int[] beat = new int[MOST];
        private final int[] quartersMade = new int[MOST];
        private int known = 0;

        void append(int b, int q) {
            if (known >= 0 && known < MOST) {
                beat[known] = b;
                quartersMade[known] = q;
                known++;
            }
        }

        boolean allow(int up, int turn) {
            for (int i = 0; i < known && i < MOST; i++) {
                boolean inAir = beat[i] < beatsInAir(up);
                if (!inAir || turn * beat[i] / 2 % 4 != quartersMade[i]) {
                    return false;
                }
            }
            return true;
        }
    }
}
