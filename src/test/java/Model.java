import java.math.BigDecimal;
import java.math.BigInteger;
import java.util.ArrayDeque;
import java.util.ArrayList;
import java.util.Arrays;
import java.util.Deque;
import java.util.HashMap;
import java.util.List;
import java.util.Map;
import java.util.Set;
import java.util.TreeMap;
import java.util.TreeSet;
import java.util.regex.Matcher;
import java.util.regex.Pattern;

/** The document told a second time, with no thought of speed or room, to compare with. */
final class Model {
    private static final int BAD = -1, STATE = -2, FULL = -3, NONE = -9, NO = -1000000;

    /** A text that can't be read: the place of its FAULT. */
    private static final class Fault extends Exception {
        private static final long serialVersionUID = 1;
        final int place;

        Fault(int place) {
            this.place = place;
        }
    }

    /** All that a text tells. */
    private static final class Told {
        int n = 12;
        Map<String, Integer> once = new TreeMap<>();
        Map<Integer, Integer> winds = new TreeMap<>();
        Set<Integer> wets = new TreeSet<>();
        List<int[]> runners = new ArrayList<>();
        int items = 0;

        int of(String word, int atFirst) {
            return once.getOrDefault(word, atFirst);
        }
    }

    /** Where one RUNNER is; never changed. */
    private record Runner(int yard, int beats, int good) {
    }

    private record Act(int r, Runner before) {
    }

    private record Image(List<Runner> runners, int lot) {
    }

    private String text = "";
    private Told lane = new Told();
    private List<Runner> runners = new ArrayList<>();
    private int lot = 1;
    private final Deque<Act> acts = new ArrayDeque<>();
    private final List<int[]> pictures = new ArrayList<>();
    private final Image[] images = new Image[2];
    private long trace = 0;

    // ---- the lane

    int type(long v, int n) {
        if (n < 1 || n > 8) {
            return BAD;
        }
        if (text.length() + n > 300) {
            return FULL;
        }
        String digits = String.format("%016x", v);
        for (int i = 16 - 2 * n; i < 16; i += 2) {
            text += (char) Integer.parseInt(digits.substring(i, i + 2), 16);
        }
        return text.length();
    }

    int clear() {
        int had = text.length();
        text = "";
        return had;
    }

    int lane() {
        try {
            lane = read(text);
        } catch (Fault fault) {
            return -10 - fault.place;
        }
        text = "";
        runners = new ArrayList<>();
        for (int r = 0; r < lane.runners.size(); r++) {
            runners.add(new Runner(0, 0, 0));
        }
        acts.clear();
        pictures.clear();
        Arrays.fill(images, null);
        return lane.items;
    }

    private static Told read(String text) throws Fault {
        Told told = new Told();
        Tokens tokens = new Tokens(text);
        while (!tokens.ended()) {
            String word = tokens.word();
            int at = tokens.begin;
            switch (word) {
                case "lane" -> {
                    if (told.items > 0) {
                        throw new Fault(at);
                    }
                    told.n = tokens.number(4, 24);
                }
                case "wind" -> {
                    int y = tokens.number(0, told.n - 1);
                    told.winds.put(y, tokens.number(1, 3));
                }
                case "wet" -> told.wets.add(tokens.number(0, told.n - 1));
                case "runner" -> {
                    if (told.runners.size() == 3) {
                        throw new Fault(at);
                    }
                    int pace = tokens.number(1, 4);
                    told.runners.add(new int[] {pace, tokens.number(0, 9)});
                }
                case "rope", "need", "drop" -> {
                    if (told.once.containsKey(word)) {
                        throw new Fault(at);
                    }
                    int most = Map.of("rope", 3, "need", 4, "drop", 9).get(word);
                    told.once.put(word, tokens.number(1, most));
                }
                default -> throw new Fault(at);
            }
            if (!tokens.word().equals(";")) {
                throw new Fault(tokens.begin);
            }
            told.items++;
        }
        return told;
    }

    /** A text cut into TOKENS; what is none is a Fault when it is asked for. */
    private static final class Tokens {
        private static final Pattern TOKEN =
            Pattern.compile("([a-z]+|;)|((?:0|[1-9][0-9]?)(?![0-9]))");

        private String rest;
        private final int length;
        private int begin;

        Tokens(String text) {
            rest = text;
            length = text.length();
        }

        boolean ended() {
            rest = rest.replaceFirst("^ +", "");
            begin = length - rest.length();
            return rest.isEmpty();
        }

        String word() throws Fault {
            return take(1);
        }

        int number(int least, int most) throws Fault {
            int number = Integer.parseInt(take(2));
            if (number < least || number > most) {
                throw new Fault(begin);
            }
            return number;
        }

        private String take(int group) throws Fault {
            ended();
            Matcher match = TOKEN.matcher(rest);
            if (!match.lookingAt() || match.group(group) == null) {
                throw new Fault(begin);
            }
            rest = rest.substring(match.end());
            return match.group(group);
        }
    }

    int yard(int y, int what) {
        if (!isYard(y)) {
            return BAD;
        }
        return switch (what) {
            case 0 -> lane.winds.getOrDefault(y, 0);
            case 1 -> lane.wets.contains(y) ? 1 : 0;
            default -> BAD;
        };
    }

    int told(int what) {
        return switch (what) {
            case 0 -> lane.n;
            case 1 -> rope();
            case 2 -> need();
            case 3 -> drop();
            default -> BAD;
        };
    }

    int runner(int r, int what) {
        if (!isRunner(r)) {
            return BAD;
        }
        return switch (what) {
            case 0 -> pace(r);
            case 1 -> lane.runners.get(r)[1];
            case 2 -> runners.get(r).yard;
            case 3 -> runners.get(r).beats;
            case 4 -> runners.get(r).good;
            case 5 -> isHome(r) ? 1 : 0;
            default -> BAD;
        };
    }

    private int rope() {
        return lane.of("rope", 2);
    }

    private int need() {
        return lane.of("need", 3);
    }

    private int drop() {
        return lane.of("drop", 3);
    }

    private int pace(int r) {
        return lane.runners.get(r)[0];
    }

    private boolean isYard(int y) {
        return 0 <= y && y < lane.n;
    }

    private boolean isRunner(int r) {
        return 0 <= r && r < lane.runners.size();
    }

    private boolean isHome(int r) {
        return runners.get(r).yard == lane.n && runners.get(r).good >= need();
    }

    private static boolean within(int number, int least, int most) {
        return least <= number && number <= most;
    }

    // ---- tosses

    int comes(int r, int y, int up, int forward, int turn, int runs, int what) {
        if (!isRunner(r) || !isYard(y) || !within(up, 1, 4) || !within(forward, 0, 9)
            || !within(turn, 0, 7) || !within(runs, 0, 1) || !within(what, 0, 4)) {
            return NO;
        }
        int down = y + forward - up * yard(y, 0);
        int is = y;
        for (int beat = 0; runs == 1 && beat < 2 * up; beat++) {
            is = Math.min(is + pace(r), lane.n);
        }
        int quarters = 0;
        for (int i = 0; i < up; i++) {
            quarters += turn;
        }
        int turned = Set.of(2, 6, 10, 14, 18, 22, 26).contains(quarters) ? 1 : 0;
        int inTen = lane.runners.get(r)[1] + 3;
        inTen -= 3 * Math.max(down - is, is - down);
        inTen -= (quarters & 1) == 1 ? 2 : 0;
        inTen -= lane.wets.contains(is) ? 2 : 0;
        inTen = inTen < 0 ? 0 : inTen > 10 ? 10 : inTen;
        return new int[] {down, is, quarters, turned, inTen}[what];
    }

    int best(int r, int y, int runs, int what) {
        if (!isRunner(r) || !isYard(y) || !within(runs, 0, 1) || !within(what, 0, 1)) {
            return BAD;
        }
        int most = -1;
        int number = 0;
        for (int code = 100 * rope(); code < 500; code++) {
            int u = code / 100;
            int f = code / 10 % 10;
            int t = code % 10;
            if (comes(r, y, u, f, t, runs, 3) == 1) {
                int inTen = comes(r, y, u, f, t, runs, 4);
                if (inTen > most) {
                    most = inTen;
                    number = code;
                }
            }
        }
        return what == 0 ? most : number;
    }

    // ---- a run

    int runs(int r, int n) {
        if (!isRunner(r) || !within(n, 1, 9)) {
            return BAD;
        }
        Runner was = runners.get(r);
        if (was.yard == lane.n) {
            return STATE;
        }
        int yard = was.yard;
        for (int i = 0; i < n && yard < lane.n; i++) {
            yard = Math.min(lane.n, yard + pace(r));
        }
        act(r, new Runner(yard, was.beats + n, was.good));
        return yard;
    }

    int toss(int r, int up, int forward, int turn, int runs) {
        if (comes(r, 0, up, forward, turn, runs, 0) == NO) {
            return BAD;
        }
        Runner was = runners.get(r);
        if (was.yard == lane.n) {
            return STATE;
        }
        int inTen = comes(r, was.yard, up, forward, turn, runs, 4);
        lot = BigInteger.valueOf(lot).multiply(BigInteger.valueOf(1103515245))
            .add(BigInteger.valueOf(12345)).intValue();
        int draw = Integer.parseInt(String.format("%08x", lot).substring(0, 4), 16) % 10;
        boolean caught = draw < inTen;
        boolean good = caught && up >= rope()
            && comes(r, was.yard, up, forward, turn, runs, 3) == 1;
        act(r, new Runner(comes(r, was.yard, up, forward, turn, runs, 1),
            was.beats + up + up + (caught ? 0 : drop()), good ? was.good + 1 : was.good));
        return good ? 2 : caught ? 1 : 0;
    }

    private void act(int r, Runner now) {
        acts.addLast(new Act(r, runners.get(r)));
        if (acts.size() > 10) {
            acts.removeFirst();
        }
        runners.set(r, now);
    }

    int undo() {
        if (acts.isEmpty()) {
            return STATE;
        }
        Act last = acts.removeLast();
        runners.set(last.r, last.before);
        return acts.size();
    }

    int lot(int v) {
        int was = lot;
        lot = v;
        return was;
    }

    int home(int what) {
        if (what != 0 && what != 1) {
            return BAD;
        }
        int bits = 0;
        int first = NONE;
        for (int r = runners.size() - 1; r >= 0; r--) {
            if (isHome(r)) {
                bits += (int) Math.pow(2, r);
                if (first == NONE || runners.get(r).beats <= runners.get(first).beats) {
                    first = r;
                }
            }
        }
        return what == 0 ? bits : first;
    }

    // ---- odds

    long odds(int r, int b, int what) {
        if (!isRunner(r) || !within(b, 0, 24) || !within(what, 0, 1)) {
            return BAD;
        }
        BigDecimal chance = chance(r, runners.get(r), b, new HashMap<>());
        BigInteger lower = BigInteger.TEN.pow(40);
        return inLeastTerms(chance.multiply(new BigDecimal(lower)).toBigIntegerExact(), lower, what);
    }

    int enough(int r, int c) {
        if (!isRunner(r) || !within(c, 0, 10)) {
            return BAD;
        }
        for (int b = 0; b <= 24; b++) {
            BigDecimal chance = chance(r, runners.get(r), b, new HashMap<>());
            if (chance.compareTo(BigDecimal.valueOf(c, 1)) >= 0) {
                return b;
            }
        }
        return NONE;
    }

    private BigDecimal chance(int r, Runner at, int b, Map<Runner, BigDecimal> known) {
        if (at.beats > b) {
            return BigDecimal.ZERO;
        }
        if (at.yard == lane.n) {
            return at.good >= need() ? BigDecimal.ONE : BigDecimal.ZERO;
        }
        BigDecimal chance = known.get(at);
        if (chance == null) {
            int next = Math.min(lane.n, at.yard + pace(r));
            chance = chance(r, new Runner(next, at.beats + 1, at.good), b, known);
            for (int runs = 0; runs < 2; runs++) {
                chance = chance.max(chanceByToss(r, at, runs, b, known));
            }
            known.put(at, chance);
        }
        return chance;
    }

    private BigDecimal chanceByToss(int r, Runner at, int runs, int b, Map<Runner, BigDecimal> known) {
        int inTen = best(r, at.yard, runs, 0);
        int code = best(r, at.yard, runs, 1);
        int up = code / 100;
        int is = comes(r, at.yard, up, code / 10 % 10, code % 10, runs, 1);
        BigDecimal caught = chance(r, new Runner(is, at.beats + 2 * up, at.good + 1), b, known);
        BigDecimal dropped = chance(r, new Runner(is, at.beats + 2 * up + drop(), at.good), b, known);
        return caught.multiply(BigDecimal.valueOf(inTen, 1))
            .add(dropped.multiply(BigDecimal.valueOf(10 - inTen, 1)));
    }

    private static long inLeastTerms(BigInteger upper, BigInteger lower, int what) {
        return (what == 0 ? upper : lower).divide(upper.gcd(lower)).longValueExact();
    }

    // ---- pictures, towns

    int picture(int b, int q) {
        if (!within(b, 1, 8) || !within(q, 0, 3)) {
            return BAD;
        }
        if (pictures.size() == 6) {
            return FULL;
        }
        pictures.add(new int[] {b, q});
        return pictures.size();
    }

    int forget() {
        int had = pictures.size();
        pictures.clear();
        return had;
    }

    int could(int what) {
        if (!within(what, 0, 1)) {
            return BAD;
        }
        int[] counts = new int[2];
        for (int u = 1; u <= 4; u++) {
            for (int t = 0; t <= 7; t++) {
                boolean all = true;
                for (int[] picture : pictures) {
                    int made = (int) Math.floor(t * picture[0] / 2.0);
                    all &= picture[0] < 2 * u && made % 4 == picture[1];
                }
                counts[0] += all ? 1 : 0;
                counts[1] += all && (t * u - 2) % 4 == 0 ? 1 : 0;
            }
        }
        return counts[what];
    }

    int towns(int a, int x, int b, int y, int what) {
        if (!within(a, 0, 999) || !within(x, 0, 99) || !within(b, 0, 999) || !within(y, 0, 99)
            || !within(what, 0, 1)) {
            return BAD;
        }
        int all = 0;
        int won = 0;
        for (int one = a - x; one <= a + x; one++) {
            for (int other = b - y; other <= b + y; other++) {
                all++;
                won += one < other ? 1 : 0;
            }
        }
        return (int) inLeastTerms(BigInteger.valueOf(won), BigInteger.valueOf(all), what);
    }

    // ---- kinds, images

    private class Toss {
        final int u;
        final int t;

        Toss(int u, int t) {
            this.u = u;
            this.t = t;
        }

        int rated() {
            trace += 1;
            return 2 * u;
        }
    }

    private class Standing extends Toss {
        Standing(int u, int t) {
            super(u, t);
        }

        @Override
        int rated() {
            trace += 10;
            return super.rated() + u * t;
        }
    }

    private class Running extends Toss {
        Running(int u, int t) {
            super(u, t);
        }

        @Override
        int rated() {
            trace += 100;
            return super.rated() - t;
        }
    }

    private final class Folded extends Standing {
        Folded(int u, int t) {
            super(u, t);
        }

        @Override
        int rated() {
            trace += 1000;
            return super.rated() * 2;
        }
    }

    private final class Dropped extends Running {
        Dropped(int u, int t) {
            super(u, t);
        }

        @Override
        int rated() {
            trace += 10000;
            return super.rated() + drop();
        }
    }

    private final class Low extends Toss {
        Low(int u, int t) {
            super(u, t);
        }

        @Override
        int rated() {
            trace += 100000;
            return super.rated() - rope();
        }
    }

    int rate(int kind, int up, int turn) {
        if (!within(kind, 0, 5) || !within(up, 1, 4) || !within(turn, 0, 7)) {
            return NO;
        }
        Toss toss = switch (kind) {
            case 0 -> new Toss(up, turn);
            case 1 -> new Standing(up, turn);
            case 2 -> new Running(up, turn);
            case 3 -> new Folded(up, turn);
            case 4 -> new Dropped(up, turn);
            default -> new Low(up, turn);
        };
        return toss.rated();
    }

    int keep(int image) {
        if (!within(image, 0, 1)) {
            return BAD;
        }
        images[image] = new Image(List.copyOf(runners), lot);
        return Integer.bitCount(home(0));
    }

    int back(int image) {
        if (!within(image, 0, 1)) {
            return BAD;
        }
        if (images[image] == null) {
            return STATE;
        }
        runners = new ArrayList<>(images[image].runners);
        lot = images[image].lot;
        acts.clear();
        return Integer.bitCount(home(0));
    }

    int count(int what) {
        return switch (what) {
            case 0 -> lane.runners.size();
            case 1 -> pictures.size();
            case 2 -> acts.size();
            case 3 -> text.length();
            default -> BAD;
        };
    }

    long trace() {
        return trace;
    }
}
