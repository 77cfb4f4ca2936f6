import java.util.Arrays;

/**
 * "Refused, and nothing changes, the first of these: BAD (a number is not as told, or there is no such
 * thing), STATE (as told), FULL." Each number of each call: the least, the greatest, and beyond them.
 */
final class RefusedTest {
    private interface Call {
        long on(PancakeRun run, int[] given);
    }

    private static final int[] BIT = {0, 1};
    private static final int[] UP = {1, 4};
    private static final int[] FORWARD = {0, 9};
    private static final int[] TURN = {0, 7};
    /** As the Scene has them. */
    private static final int[] RUNNER = {0, 2};
    private static final int[] YARD = {0, 8};

    private static final String UNTOUCHED = Scene.all(Scene.begun());

    private RefusedTest() {
    }

    public static void main(String[] args) {
        rangesOfTheLane();
        rangesOfTosses();
        rangesOfRuns();
        rangesOfOdds();
        rangesOfPictures();
        rangesOfKinds();
        noSuchThing();
        faults();
        textStaysBehindAFault();
        stateAtTheEnd();
        stateOfUndo();
        stateOfBack();
        fullText();
        fullPictures();
        badAheadOfState();
        badAheadOfFull();
        lookingChangesNothing();
        Due.end();
    }

    private static void unchanged(String what, PancakeRun run, String untouched) {
        Due.same(what + " changed something", Scene.all(run), untouched);
    }

    private static void refused(String name, long refusal, Call call, int[] given) {
        PancakeRun run = Scene.begun();
        String asked = name + Arrays.toString(given);
        Due.is(asked, call.on(run, given), refusal);
        unchanged(asked, run, UNTOUCHED);
    }

    private static void taken(String name, long refusal, Call call, int[] given) {
        String asked = name + Arrays.toString(given) + " is not refused";
        Due.holds(asked, call.on(Scene.begun(), given) != refusal);
    }

    /** All numbers but one at an end (0 least, 1 greatest) of their ranges, that one as told. */
    private static int[] given(int[][] ranges, int end, int at, int number) {
        int[] given = new int[ranges.length];
        for (int i = 0; i < ranges.length; i++) {
            given[i] = ranges[i][end];
        }
        given[at] = number;
        return given;
    }

    private static void ranges(String name, long refusal, Call call, int[]... ranges) {
        for (int at = 0; at < ranges.length; at++) {
            int least = ranges[at][0];
            int greatest = ranges[at][1];
            int[] beyond = {least - 1, greatest + 1, Integer.MIN_VALUE, Integer.MAX_VALUE};
            for (int end = 0; end <= 1; end++) {
                taken(name, refusal, call, given(ranges, end, at, least));
                taken(name, refusal, call, given(ranges, end, at, greatest));
                for (int number : beyond) {
                    refused(name, refusal, call, given(ranges, end, at, number));
                }
            }
        }
        // Several that are wrong at once are refused no other way.
        int[] all = new int[ranges.length];
        for (int i = 0; i < all.length; i++) {
            all[i] = i % 2 == 0 ? ranges[i][0] - 1 : ranges[i][1] + 1;
        }
        refused(name, refusal, call, all);
    }

    private static void rangesOfTheLane() {
        ranges("type", PancakeRun.BAD, (run, g) -> run.type(0x3b, g[0]), new int[] {1, 8});
        ranges("yard", PancakeRun.BAD, (run, g) -> run.yard(g[0], g[1]), YARD, BIT);
        ranges("told", PancakeRun.BAD, (run, g) -> run.told(g[0]), new int[] {0, 3});
        ranges("runner", PancakeRun.BAD, (run, g) -> run.runner(g[0], g[1]), RUNNER, new int[] {0, 5});
    }

    private static void rangesOfTosses() {
        ranges("comes", PancakeRun.NO,
            (run, g) -> run.comes(g[0], g[1], g[2], g[3], g[4], g[5], g[6]),
            RUNNER, YARD, UP, FORWARD, TURN, BIT, new int[] {0, 4});
        ranges("best", PancakeRun.BAD, (run, g) -> run.best(g[0], g[1], g[2], g[3]),
            RUNNER, YARD, BIT, BIT);
    }

    private static void rangesOfRuns() {
        ranges("runs", PancakeRun.BAD, (run, g) -> run.runs(g[0], g[1]), RUNNER, new int[] {1, 9});
        ranges("toss", PancakeRun.BAD, (run, g) -> run.toss(g[0], g[1], g[2], g[3], g[4]),
            RUNNER, UP, FORWARD, TURN, BIT);
        ranges("home", PancakeRun.BAD, (run, g) -> run.home(g[0]), BIT);
    }

    private static void rangesOfOdds() {
        ranges("odds", PancakeRun.BAD, (run, g) -> run.odds(g[0], g[1], g[2]),
            RUNNER, new int[] {0, 24}, BIT);
        ranges("enough", PancakeRun.BAD, (run, g) -> run.enough(g[0], g[1]), RUNNER, new int[] {0, 10});
    }

    private static void rangesOfPictures() {
        ranges("picture", PancakeRun.BAD, (run, g) -> run.picture(g[0], g[1]),
            new int[] {1, 8}, new int[] {0, 3});
        ranges("could", PancakeRun.BAD, (run, g) -> run.could(g[0]), BIT);
        int[] time = {0, 999};
        int[] slip = {0, 99};
        ranges("towns", PancakeRun.BAD, (run, g) -> run.towns(g[0], g[1], g[2], g[3], g[4]),
            time, slip, time, slip, BIT);
    }

    private static void rangesOfKinds() {
        ranges("rate", PancakeRun.NO, (run, g) -> run.rate(g[0], g[1], g[2]), new int[] {0, 5}, UP, TURN);
        ranges("keep", PancakeRun.BAD, (run, g) -> run.keep(g[0]), BIT);
        ranges("back", PancakeRun.BAD, (run, g) -> run.back(g[0]), BIT);
        ranges("count", PancakeRun.BAD, (run, g) -> run.count(g[0]), new int[] {0, 3});
    }

    /** "or there is no such thing": with no, one, two, three RUNNERS the next one is none. */
    private static void noSuchThing() {
        String signs = "";
        for (int runners = 0; runners <= 3; runners++) {
            PancakeRun run = Due.reading(signs, runners);
            for (int r = 0; r <= 3; r++) {
                boolean is = r < runners;
                Due.holds("runner " + r + " of " + runners, run.runner(r, 0) == PancakeRun.BAD ^ is);
                Due.holds("comes " + r, run.comes(r, 0, 1, 0, 0, 0, 0) == PancakeRun.NO ^ is);
                Due.holds("best " + r, run.best(r, 0, 0, 0) == PancakeRun.BAD ^ is);
                Due.holds("odds " + r, run.odds(r, 0, 0) == PancakeRun.BAD ^ is);
                Due.holds("enough " + r, run.enough(r, 0) == PancakeRun.BAD ^ is);
                Due.holds("toss " + r, run.toss(r, 1, 0, 0, 0) == PancakeRun.BAD ^ is);
                Due.holds("runs " + r, run.runs(r, 1) == PancakeRun.BAD ^ is);
            }
            signs += "runner 1 9;";
        }
    }

    /** "-10 less FAULT: nothing changes (THE TEXT stays, too)." */
    private static void faults() {
        String good = "lane 5;wind 0 3;wet 1;runner 3 3;rope 2;need 4;drop 9;";
        String[] rests = {"", "lane 5;", "wind 5 1;", "wind 0 4;", "wet 5;", "runner 0 0;", "runner 1 10;",
            "rope 2;", "need 4;", "drop 9;", "x", "#", ";", "5", "wet 100;", "wet 01;", "wet", "wet 1"};
        for (String rest : rests) {
            PancakeRun run = Scene.begun();
            PancakeRun twin = Scene.begun();
            run.clear();
            twin.clear();
            Due.type(run, good + rest);
            Due.type(twin, good + rest);
            boolean whole = rest.isEmpty();
            Due.holds("lane() of \"" + good + rest + "\"", run.lane() < 0 ^ whole);
            if (whole) {
                Due.is("ITEMS", twin.lane(), 7);
            }
            unchanged("the FAULT in \"" + rest + "\"", run, Scene.all(twin));
        }
    }

    /** THE TEXT stays byte by byte: what it lacks can be typed behind it. */
    private static void textStaysBehindAFault() {
        PancakeRun run = new PancakeRun();
        Due.type(run, "lane 1");
        Due.is("lane() of \"lane 1\"", run.lane(), -15);
        Due.type(run, "7;wet 16");
        Due.is("lane() without the last ;", run.lane(), -10 - 14);
        Due.is("told(0)", run.told(0), 12);
        Due.type(run, ";");
        Due.is("lane() of all", run.lane(), 2);
        Due.is("told(0)", run.told(0), 17);
        Due.is("yard(16, 1)", run.yard(16, 1), 1);
    }

    /** "STATE: he is at n." */
    private static void stateAtTheEnd() {
        for (int end = 0; end <= 1; end++) {
            int up = UP[end];
            PancakeRun run = Scene.begun();
            String asked = "toss at n " + up;
            Due.is(asked, run.toss(0, up, FORWARD[end], TURN[end], end), PancakeRun.STATE);
            unchanged(asked, run, UNTOUCHED);
            run = Scene.begun();
            int beats = end == 0 ? 1 : 9;
            Due.is("runs at n " + beats, run.runs(0, beats), PancakeRun.STATE);
            unchanged("runs at n " + beats, run, UNTOUCHED);
        }
    }

    /** "undo(): STATE: none": at first, behind all of them, behind lane() and back(). */
    private static void stateOfUndo() {
        Due.is("undo() at first", new PancakeRun().undo(), PancakeRun.STATE);
        PancakeRun run = noActs();
        Due.is("undo() of none", run.undo(), PancakeRun.STATE);
        unchanged("undo() of none", run, Scene.all(noActs()));
        run = Scene.begun();
        run.back(0);
        Due.is("undo() behind back()", run.undo(), PancakeRun.STATE);
        PancakeRun twin = Scene.begun();
        twin.back(0);
        unchanged("undo() behind back()", run, Scene.all(twin));
        run = Scene.begun();
        run.lane();
        Due.is("undo() behind lane()", run.undo(), PancakeRun.STATE);
        twin = Scene.begun();
        twin.lane();
        unchanged("undo() behind lane()", run, Scene.all(twin));
    }

    private static PancakeRun noActs() {
        PancakeRun run = Scene.begun();
        for (int left = 6; left >= 0; left--) {
            Due.is("undo() in the scene", run.undo(), left);
        }
        return run;
    }

    /** "back(): STATE: none was kept": of each IMAGE by itself. */
    private static void stateOfBack() {
        for (int image = 0; image <= 1; image++) {
            Due.is("back(" + image + ") at first", new PancakeRun().back(image), PancakeRun.STATE);
            PancakeRun run = oneImage(1 - image);
            Due.is("back(" + image + ") of none", run.back(image), PancakeRun.STATE);
            unchanged("back(" + image + ") of none", run, Scene.all(oneImage(1 - image)));
            run = Scene.begun();
            run.lane();
            Due.is("back(" + image + ") behind lane()", run.back(image), PancakeRun.STATE);
        }
    }

    private static PancakeRun oneImage(int image) {
        PancakeRun run = Due.reading(Scene.TEXT, Scene.ITEMS);
        run.toss(0, 1, 0, 2, 0);
        run.keep(image);
        run.runs(1, 2);
        run.lot(5);
        return run;
    }

    /** "type(): FULL": for each n the last place at which so many still go in, and the next. */
    private static void fullText() {
        for (int n = 1; n <= 8; n++) {
            PancakeRun run = typed(300 - n);
            Due.is("type " + n + " at " + (300 - n), run.type(0x3b3b3b3b3b3b3b3bL, n), 300);
            for (int more = 1; more <= 8; more++) {
                Due.is("type " + more + " at 300", run.type(0x3b3b3b3b3b3b3b3bL, more), PancakeRun.FULL);
            }
            Due.is("count(3)", run.count(3), 300);
            Due.is("lane() of blanks and ;", run.lane(), -10 - (300 - n));
            run = typed(301 - n);
            Due.is("type " + n + " at " + (301 - n), run.type(0x3b3b3b3b3b3b3b3bL, n), PancakeRun.FULL);
            unchanged("type that is FULL", run, Scene.all(typed(301 - n)));
        }
    }

    private static PancakeRun typed(int blanks) {
        PancakeRun run = Due.reading(Scene.TEXT, Scene.ITEMS);
        Due.type(run, " ".repeat(blanks));
        return run;
    }

    /** "picture(): FULL": the sixth goes in, the seventh does not. */
    private static void fullPictures() {
        PancakeRun run = sixPictures();
        Due.is("a seventh PICTURE", run.picture(7, 3), PancakeRun.FULL);
        Due.is("a seventh PICTURE", run.picture(1, 0), PancakeRun.FULL);
        unchanged("a seventh PICTURE", run, Scene.all(sixPictures()));
    }

    private static PancakeRun sixPictures() {
        PancakeRun run = Due.reading(Scene.TEXT, Scene.ITEMS);
        for (int i = 1; i <= 6; i++) {
            Due.is("PICTURE " + i, run.picture(i == 6 ? 3 : 1, i == 6 ? 1 : 0), i);
        }
        return run;
    }

    /** "the first of these": BAD, where STATE would do, too. */
    private static void badAheadOfState() {
        PancakeRun home = Scene.begun();
        Due.is("runs(0, 0) at n", home.runs(0, 0), PancakeRun.BAD);
        Due.is("runs(0, 10) at n", home.runs(0, 10), PancakeRun.BAD);
        int[][] tosses = {{0, 0, 0, 0}, {5, 0, 0, 0}, {1, -1, 0, 0}, {1, 10, 0, 0}, {1, 0, -1, 0},
            {1, 0, 8, 0}, {1, 0, 0, -1}, {1, 0, 0, 2}};
        for (int[] t : tosses) {
            Due.is("toss" + Arrays.toString(t) + " at n", home.toss(0, t[0], t[1], t[2], t[3]),
                PancakeRun.BAD);
        }
        unchanged("a bad call at n", home, UNTOUCHED);
        PancakeRun fresh = new PancakeRun();
        Due.is("back(-1), none kept", fresh.back(-1), PancakeRun.BAD);
        Due.is("back(2), none kept", fresh.back(2), PancakeRun.BAD);
    }

    /** "the first of these": BAD, where FULL would do, too. */
    private static void badAheadOfFull() {
        PancakeRun run = typed(300);
        Due.is("type(.., 0) at 300", run.type(0, 0), PancakeRun.BAD);
        Due.is("type(.., 9) at 300", run.type(0, 9), PancakeRun.BAD);
        Due.is("type(.., 1) at 300", run.type(0, 1), PancakeRun.FULL);
        run = sixPictures();
        int[][] pictures = {{0, 0}, {9, 0}, {1, -1}, {1, 4}};
        for (int[] p : pictures) {
            Due.is("picture" + Arrays.toString(p) + " with six", run.picture(p[0], p[1]), PancakeRun.BAD);
        }
        Due.is("picture(1, 0) with six", run.picture(1, 0), PancakeRun.FULL);
    }

    /** Only what the document says changes: to ask changes nothing, ("Nothing is changed.") in part 3. */
    private static void lookingChangesNothing() {
        PancakeRun run = Scene.begun();
        for (int end = 0; end <= 1; end++) {
            run.yard(YARD[end], end);
            run.told(end);
            run.runner(RUNNER[end], 2);
            run.comes(RUNNER[end], YARD[end], UP[end], FORWARD[end], TURN[end], end, 4);
            run.best(RUNNER[end], YARD[end], end, end);
            run.home(end);
            run.odds(RUNNER[end], 24, end);
            run.odds(1, 24, end);
            run.enough(RUNNER[end], 10);
            run.could(end);
            run.towns(5, 2, 6, 1, end);
            run.count(end);
            run.trace();
        }
        unchanged("looking", run, UNTOUCHED);
    }
}
