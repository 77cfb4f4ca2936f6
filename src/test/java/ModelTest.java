import java.util.Random;

/** Long runs of calls, with seeds that are told, compared with the Model call by call. */
final class ModelTest {
    private static final int OBJECTS = 150;
    /** The document promises 512, and the last act begun may take some fifty. */
    private static final int CALLS = 512 - 50;
    private static final int MOST_TOLD = 20;

    private final Random random;
    private final PancakeRun run = new PancakeRun();
    private final Model model = new Model();
    private final StringBuilder story = new StringBuilder();
    private int calls = 0;
    private int wrong = 0;

    private ModelTest(long seed) {
        random = new Random(seed);
        story.append("seed ").append(seed).append(": ");
    }

    public static void main(String[] args) {
        int told = 0;
        for (int seed = 1; seed <= OBJECTS && told < MOST_TOLD; seed++) {
            ModelTest test = new ModelTest(seed);
            test.go();
            told += test.wrong;
        }
        Due.end();
    }

    private void go() {
        if (random.nextInt(8) > 0) {
            tell(wholeText());
        }
        while (calls < CALLS && wrong == 0) {
            act();
        }
    }

    private void same(String call, long got, long want) {
        calls++;
        story.append(call).append(' ').append(got).append("; ");
        Due.is("call " + calls, got, want);
        if (got != want) {
            wrong++;
            System.out.println(story);
        }
    }

    /** Mostly within what may be, at times at or beyond its edges. */
    private int some(int least, int most) {
        switch (random.nextInt(24)) {
            case 0:
                return least - 1;
            case 1:
                return most + 1;
            case 2:
                return random.nextInt(40) == 0 ? random.nextInt() : least;
            case 3:
                return most;
            default:
                return within(least, most);
        }
    }

    private int within(int least, int most) {
        return least + random.nextInt(most - least + 1);
    }

    private void act() {
        switch (random.nextInt(27)) {
            case 0, 1, 2, 3, 4 -> toss();
            case 5, 6 -> {
                int r = some(0, 2);
                int n = random.nextInt(3) == 0 ? some(1, 9) : 1;
                same("runs " + r + " " + n, run.runs(r, n), model.runs(r, n));
            }
            case 7, 8 -> same("undo", run.undo(), model.undo());
            case 9 -> lotsAndHomes();
            case 10, 11 -> comes();
            case 12 -> best();
            case 13, 14 -> odds();
            case 15, 16 -> pictures();
            case 17 -> towns();
            case 18 -> {
                int kind = some(0, 5);
                int up = some(1, 4);
                int turn = some(0, 7);
                same("rate " + kind + " " + up + " " + turn,
                    run.rate(kind, up, turn), model.rate(kind, up, turn));
                same("trace", run.trace(), model.trace());
            }
            case 19, 20 -> images();
            case 21 -> texts();
            default -> look();
        }
    }

    private void toss() {
        int r = some(0, 2);
        int up = some(1, 4);
        int forward = some(0, 9);
        int turn = some(0, 7);
        int runs = random.nextInt(3) == 0 ? some(0, 1) : 0;
        if (random.nextBoolean()) {
            int yard = run.runner(r, 2);
            int best = run.best(r, yard, runs, 1);
            up = best < 0 ? up : best / 100;
            forward = best < 0 ? forward : best / 10 % 10;
            turn = best < 0 ? turn : best % 10;
            calls += 2;
        }
        same("toss " + r + " " + up + " " + forward + " " + turn + " " + runs,
            run.toss(r, up, forward, turn, runs), model.toss(r, up, forward, turn, runs));
    }

    private void lotsAndHomes() {
        int what = some(0, 1);
        same("home " + what, run.home(what), model.home(what));
        int lot = random.nextInt(4) == 0 ? random.nextInt() : random.nextInt(9);
        same("lot " + lot, run.lot(lot), model.lot(lot));
    }

    private void comes() {
        int r = some(0, 2);
        int y = some(0, run.told(0) - 1);
        int up = some(1, 4);
        int forward = some(0, 9);
        int turn = some(0, 7);
        int runs = some(0, 1);
        int what = some(0, 4);
        calls++;
        same("comes " + r + " " + y + " " + up + " " + forward + " " + turn + " " + runs + " " + what,
            run.comes(r, y, up, forward, turn, runs, what),
            model.comes(r, y, up, forward, turn, runs, what));
    }

    private void best() {
        int r = some(0, 2);
        int y = some(0, run.told(0) - 1);
        int runs = some(0, 1);
        int what = some(0, 1);
        calls++;
        same("best " + r + " " + y + " " + runs + " " + what,
            run.best(r, y, runs, what), model.best(r, y, runs, what));
    }

    private void odds() {
        if (random.nextInt(4) > 0) {
            return;
        }
        int r = some(0, 2);
        int b = random.nextBoolean() ? some(0, 24) : within(14, 24);
        same("odds " + r + " " + b + " 0", run.odds(r, b, 0), model.odds(r, b, 0));
        int what = some(0, 1);
        same("odds " + r + " " + b + " " + what, run.odds(r, b, what), model.odds(r, b, what));
        int c = some(0, 10);
        same("enough " + r + " " + c, run.enough(r, c), model.enough(r, c));
    }

    private void pictures() {
        if (random.nextInt(3) == 0) {
            same("forget", run.forget(), model.forget());
        }
        int b = some(1, 8);
        int q = some(0, 3);
        same("picture " + b + " " + q, run.picture(b, q), model.picture(b, q));
        int what = some(0, 1);
        same("could " + what, run.could(what), model.could(what));
    }

    private void towns() {
        int a = some(0, 999);
        int x = some(0, 99);
        int b = random.nextBoolean() ? a + within(-20, 20) : some(0, 999);
        int y = some(0, 99);
        int what = some(0, 1);
        same("towns " + a + " " + x + " " + b + " " + y + " " + what,
            run.towns(a, x, b, y, what), model.towns(a, x, b, y, what));
    }

    private void images() {
        int image = some(0, 1);
        if (random.nextBoolean()) {
            same("keep " + image, run.keep(image), model.keep(image));
        } else {
            same("back " + image, run.back(image), model.back(image));
        }
    }

    private void texts() {
        switch (random.nextInt(5)) {
            case 0:
                same("clear", run.clear(), model.clear());
                break;
            case 1:
                long v = random.nextLong();
                int n = some(1, 8);
                same("type " + v + " " + n, run.type(v, n), model.type(v, n));
                break;
            case 2:
                same("lane", run.lane(), model.lane());
                break;
            default:
                same("clear", run.clear(), model.clear());
                tell(random.nextInt(3) == 0 ? wholeText() : brokenText());
        }
    }

    private void look() {
        int r = some(0, 2);
        int what = some(0, 5);
        same("runner " + r + " " + what, run.runner(r, what), model.runner(r, what));
        int y = some(0, 23);
        what = some(0, 1);
        same("yard " + y + " " + what, run.yard(y, what), model.yard(y, what));
        what = some(0, 3);
        same("told " + what, run.told(what), model.told(what));
        what = some(0, 3);
        same("count " + what, run.count(what), model.count(what));
    }

    private void tell(String signs) {
        for (int at = 0; at < signs.length(); at += 8) {
            int n = Math.min(8, signs.length() - at);
            long bytes = random.nextLong();
            for (int i = 0; i < n; i++) {
                bytes = bytes << 8 | signs.charAt(at + i);
            }
            same("type " + bytes + " " + n, run.type(bytes, n), model.type(bytes, n));
        }
        same("lane of \"" + signs + "\"", run.lane(), model.lane());
    }

    private String wholeText() {
        StringBuilder signs = new StringBuilder();
        int n = 12;
        if (random.nextInt(4) > 0) {
            n = within(4, random.nextBoolean() ? 8 : 24);
            signs.append("lane ").append(n).append(';');
        }
        for (int i = random.nextInt(4); i < 4; i++) {
            signs.append("wind ").append(within(0, n - 1)).append(' ').append(within(1, 3)).append(';');
            signs.append("wet ").append(within(0, n - 1)).append(';');
        }
        for (int i = random.nextInt(12) == 0 ? 3 : random.nextInt(2); i < 3; i++) {
            signs.append(random.nextBoolean() ? "runner" : " runner  ").append(within(1, 4));
            signs.append(' ').append(within(0, 9)).append(';');
        }
        String[] once = {"rope", "3", "need", "4", "drop", "9"};
        for (int i = 0; i < 6; i += 2) {
            if (random.nextInt(3) > 0) {
                int most = random.nextBoolean() ? 1 : Integer.parseInt(once[i + 1]);
                signs.append(once[i]).append(' ').append(within(1, most)).append(" ;");
            }
        }
        return signs.toString();
    }

    /** A text of which a sign or two are others, gone or more; or a row of TOKENS as they come. */
    private String brokenText() {
        StringBuilder signs = new StringBuilder();
        if (random.nextInt(4) == 0) {
            String[] tokens = {"lane", "wind", "wet", "runner", "rope", "need", "drop", ";", " ", "0",
                "1", "2", "4", "9", "12", "99", "100", "01", "lan", "#"};
            for (int i = random.nextInt(12); i < 12; i++) {
                signs.append(tokens[random.nextInt(tokens.length)]);
                signs.append(random.nextInt(3) == 0 ? "" : " ");
            }
            return signs.toString();
        }
        signs.append(wholeText());
        if (random.nextInt(4) == 0) {
            return signs.append(signs.substring(signs.indexOf(";", random.nextInt(signs.length() + 1)) + 1))
                .toString();
        }
        for (int i = random.nextInt(2); i < 2 && signs.length() > 0; i++) {
            int at = random.nextInt(signs.length());
            String others = "; 0123456789abcdlnrwt\u0000\u00ff{/:`A";
            char other = others.charAt(random.nextInt(others.length()));
            switch (random.nextInt(4)) {
                case 0 -> signs.setCharAt(at, other);
                case 1 -> signs.deleteCharAt(at);
                case 2 -> signs.insert(at, other);
                default -> signs.setLength(at);
            }
        }
        return signs.toString();
    }
}
