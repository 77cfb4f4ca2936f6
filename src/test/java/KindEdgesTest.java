/** The edges that part 4 of the document and promises 21 to 25 name, a sentence at a time. */
final class KindEdgesTest {
    private KindEdgesTest() {
    }

    public static void main(String[] args) {
        kindsNoneToFive();
        upAndTurn();
        ratesAtTheEdges();
        ratesBelowNone();
        traceNoneAtFirst();
        traceEachOnce();
        traceNotIfRefused();
        traceGoesOn();
        imagesNoneAndOne();
        imagesGoneAndKeptAnew();
        imagesKeepRunnersAndLot();
        imagesKeepNothingElse();
        imagesOfNoRunners();
        nothingUndoneBehindBack();
        keptAndBackCountTheHome();
        counts();
        Due.end();
    }

    /** "KINDS": 0 .. 5; "NO: BAD". */
    private static void kindsNoneToFive() {
        PancakeRun run = new PancakeRun();
        int[] due = {2, 3, 1, 6, 4, 0};
        for (int kind = 0; kind <= 5; kind++) {
            Due.is("rate(" + kind + ", 1, 1)", run.rate(kind, 1, 1), due[kind]);
        }
        for (int kind : new int[] {-1, 6, -2, 7, Integer.MIN_VALUE, Integer.MAX_VALUE}) {
            Due.is("rate(" + kind + ", 1, 1)", run.rate(kind, 1, 1), PancakeRun.NO);
        }
    }

    /** Of each KIND: u 1 .. 4, t 0 .. 7. */
    private static void upAndTurn() {
        PancakeRun run = new PancakeRun();
        for (int kind = 0; kind <= 5; kind++) {
            String of = "rate(" + kind + ", ";
            for (int t = 0; t <= 7; t++) {
                Due.is(of + "0, " + t + ")", run.rate(kind, 0, t), PancakeRun.NO);
                Due.holds(of + "1, " + t + ")", run.rate(kind, 1, t) != PancakeRun.NO);
                Due.holds(of + "4, " + t + ")", run.rate(kind, 4, t) != PancakeRun.NO);
                Due.is(of + "5, " + t + ")", run.rate(kind, 5, t), PancakeRun.NO);
            }
            for (int u = 1; u <= 4; u++) {
                Due.is(of + u + ", -1)", run.rate(kind, u, -1), PancakeRun.NO);
                Due.is(of + u + ", 8)", run.rate(kind, u, 8), PancakeRun.NO);
            }
        }
    }

    /** Each KIND at the least and the greatest u and t. */
    private static void ratesAtTheEdges() {
        int[][] due = {
            {2, 2, 8, 8}, {2, 9, 8, 36}, {2, -5, 8, 1}, {4, 18, 16, 72}, {5, -2, 11, 4}, {0, 0, 6, 6},
        };
        PancakeRun run = new PancakeRun();
        for (int kind = 0; kind <= 5; kind++) {
            String of = "rate(" + kind + ", ";
            Due.is(of + "1, 0)", run.rate(kind, 1, 0), due[kind][0]);
            Due.is(of + "1, 7)", run.rate(kind, 1, 7), due[kind][1]);
            Due.is(of + "4, 0)", run.rate(kind, 4, 0), due[kind][2]);
            Due.is(of + "4, 7)", run.rate(kind, 4, 7), due[kind][3]);
        }
    }

    /** A rate may be below 0, by ROPE 3 and DROP 1 too, and be just BAD's number. */
    private static void ratesBelowNone() {
        PancakeRun run = Due.reading("rope 3;drop 1;", 2);
        Due.is("LOW", run.rate(5, 1, 7), -1);
        Due.is("LOW", run.rate(5, 2, 0), 1);
        Due.is("DROPPED", run.rate(4, 1, 7), -4);
        Due.is("RUNNING", run.rate(2, 1, 3), -1);
        Due.is("THE TRACE", run.trace(), 2 * 100001 + 10101 + 101);
        run = Due.reading("rope 1;drop 9;", 2);
        Due.is("LOW", run.rate(5, 1, 0), 1);
        Due.is("DROPPED", run.rate(4, 4, 0), 17);
    }

    /** "THE TRACE, 0 at first". */
    private static void traceNoneAtFirst() {
        Due.is("trace()", new PancakeRun().trace(), 0);
        PancakeRun run = Due.reading(Scene.TEXT, Scene.ITEMS);
        run.toss(0, 1, 0, 2, 0);
        run.comes(0, 0, 1, 0, 2, 0, 4);
        run.best(0, 0, 1, 0);
        run.odds(0, 24, 0);
        Due.is("trace() without rate()", run.trace(), 0);
    }

    /** "as often as rate() asks that body: each once", "(asked once; 1000)". */
    private static void traceEachOnce() {
        long[] due = {1, 11, 101, 1011, 10101, 100001};
        for (int kind = 0; kind <= 5; kind++) {
            PancakeRun run = new PancakeRun();
            for (int i = 1; i <= 12; i++) {
                run.rate(kind, 1 + i % 4, i % 8);
                Due.is("trace() of " + kind, run.trace(), i * due[kind]);
            }
        }
    }

    private static void traceNotIfRefused() {
        PancakeRun run = new PancakeRun();
        int[][] bad = {{-1, 1, 0}, {6, 1, 0}, {3, 0, 0}, {3, 5, 0}, {4, 1, -1}, {4, 1, 8}};
        for (int[] b : bad) {
            run.rate(b[0], b[1], b[2]);
            Due.is("trace() behind what is refused", run.trace(), 0);
        }
    }

    /** "THE TRACE goes on, as behind undo(), back()": behind lane(), clear(), lot() too. */
    private static void traceGoesOn() {
        PancakeRun run = Scene.begun();
        long trace = run.trace();
        Due.is("trace()", trace, 10101);
        run.undo();
        Due.is("behind undo()", run.trace(), trace);
        run.rate(0, 1, 0);
        run.back(0);
        Due.is("behind back()", run.trace(), trace + 1);
        run.rate(1, 1, 0);
        run.lane();
        Due.is("behind lane()", run.trace(), trace + 12);
        run.lane();
        run.clear();
        run.lot(1);
        run.forget();
        Due.is("behind all of them", run.trace(), trace + 12);
    }

    /** "IMAGES 0, 1". */
    private static void imagesNoneAndOne() {
        for (int image : new int[] {-1, 2, 3, Integer.MIN_VALUE, Integer.MAX_VALUE}) {
            PancakeRun run = new PancakeRun();
            Due.is("keep(" + image + ")", run.keep(image), PancakeRun.BAD);
            Due.is("back(" + image + ")", run.back(image), PancakeRun.BAD);
            Due.is("back(0)", run.back(0), PancakeRun.STATE);
            Due.is("back(1)", run.back(1), PancakeRun.STATE);
        }
    }

    /** "STATE: none was kept", "IMAGES are gone": by lane() that reads, not by a FAULT. */
    private static void imagesGoneAndKeptAnew() {
        for (int image = 0; image <= 1; image++) {
            PancakeRun run = Due.reading("lane 4;runner 1 9;", 2);
            Due.is("back() ahead of keep()", run.back(image), PancakeRun.STATE);
            Due.is("keep()", run.keep(image), 0);
            Due.is("back()", run.back(image), 0);
            Due.is("back() of the other", run.back(1 - image), PancakeRun.STATE);
            Due.type(run, "lane 4;x");
            Due.is("lane()", run.lane(), -17);
            Due.is("back() behind a FAULT", run.back(image), 0);
            run.clear();
            Due.is("lane() of none", run.lane(), 0);
            Due.is("back() behind lane()", run.back(image), PancakeRun.STATE);
            Due.is("keep()", run.keep(image), 0);
            Due.is("back()", run.back(image), 0);
        }
    }

    private static void at(PancakeRun run, int r, int... due) {
        for (int i = 0; i < due.length; i++) {
            Due.is("runner(" + r + ", " + (2 + i) + ")", run.runner(r, 2 + i), due[i]);
        }
    }

    /** "IMAGES keep RUNNERS (YARD, BEATS, GOOD) and THE LOT": of all three, each by itself. */
    private static void imagesKeepRunnersAndLot() {
        for (int image = 0; image <= 1; image++) {
            PancakeRun run = Due.reading("lane 9;runner 1 9;runner 2 9;runner 4 9;rope 1;need 1;", 6);
            run.lot(-5);
            run.keep(1 - image);
            run.runs(0, 3);
            run.toss(1, 1, 4, 2, 1);
            run.toss(2, 1, 8, 2, 1);
            run.runs(2, 1);
            run.lot(Integer.MIN_VALUE);
            Due.is("keep()", run.keep(image), 1);
            for (int r = 0; r <= 1; r++) {
                run.toss(r, 2, 0, 1, 0);
                run.runs(r, 9);
            }
            for (int round = 0; round < 2; round++) {
                Due.is("back()", run.back(image), 1);
                at(run, 0, 3, 3, 0, 0);
                at(run, 1, 4, 2, 1, 0);
                at(run, 2, 9, 3, 1, 1);
                Due.is("THE LOT", run.lot(9), Integer.MIN_VALUE);
                Due.is("back() to the other", run.back(1 - image), 0);
                for (int r = 0; r <= 2; r++) {
                    at(run, r, 0, 0, 0, 0);
                }
                Due.is("THE LOT", run.lot(9), -5);
            }
        }
    }

    /** "nothing else": THE TEXT, PICTURES, THE TRACE, the LANE stay as they are. */
    private static void imagesKeepNothingElse() {
        PancakeRun run = Due.reading("lane 5;wind 1 2;wet 3;runner 1 9;need 1;", 5);
        run.keep(0);
        run.picture(1, 0);
        Due.type(run, "wet 1;");
        run.rate(3, 1, 1);
        run.back(0);
        Due.is("PICTURES", run.count(1), 1);
        Due.is("could(0)", run.could(0), 8);
        Due.is("bytes", run.count(3), 6);
        Due.is("THE TRACE", run.trace(), 1011);
        Due.is("told(0)", run.told(0), 5);
        Due.is("yard(1, 0)", run.yard(1, 0), 2);
        Due.is("lane()", run.lane(), 1);
    }

    /** With no RUNNERS an IMAGE keeps THE LOT alone. */
    private static void imagesOfNoRunners() {
        PancakeRun run = new PancakeRun();
        Due.is("keep(1)", run.keep(1), 0);
        Due.is("lot(8)", run.lot(8), 1);
        Due.is("back(1)", run.back(1), 0);
        Due.is("lot(8)", run.lot(8), 1);
    }

    /** "(nothing can be UNDONE behind back())": acts behind it can, those ahead of keep() stay known. */
    private static void nothingUndoneBehindBack() {
        PancakeRun run = Due.reading("lane 24;runner 1 9;", 2);
        run.runs(0, 1);
        run.runs(0, 1);
        run.keep(0);
        Due.is("count(2) behind keep()", run.count(2), 2);
        Due.is("undo() behind keep()", run.undo(), 1);
        run.back(0);
        Due.is("count(2) behind back()", run.count(2), 0);
        Due.is("undo() behind back()", run.undo(), PancakeRun.STATE);
        at(run, 0, 2, 2, 0, 0);
        run.runs(0, 4);
        Due.is("undo() of what was behind it", run.undo(), 0);
        at(run, 0, 2, 2, 0, 0);
        run.runs(0, 4);
        Due.is("back(1) of none", run.back(1), PancakeRun.STATE);
        Due.is("count(2) behind what is refused", run.count(2), 1);
    }

    /** "how many are HOME": 0 .. 3. */
    private static void keptAndBackCountTheHome() {
        PancakeRun run = Due.reading("lane 4;runner 2 9;runner 2 9;runner 2 9;rope 1;need 1;", 6);
        Due.is("keep(0)", run.keep(0), 0);
        for (int r = 2; r >= 0; r--) {
            run.toss(r, 1, 4, 2, 1);
            Due.is("keep(1)", run.keep(1), 3 - r);
            Due.is("back(1)", run.back(1), 3 - r);
        }
        Due.is("back(0)", run.back(0), 0);
        Due.is("back(1)", run.back(1), 3);
    }

    /** "0 RUNNERS, 1 PICTURES, 2 how many may be UNDONE, 3 bytes of THE TEXT": none, and the most. */
    private static void counts() {
        PancakeRun run = new PancakeRun();
        for (int what = 0; what <= 3; what++) {
            Due.is("count(" + what + ") at first", run.count(what), 0);
        }
        run = Due.reading("lane 24;runner 1 9;runner 1 9;runner 1 9;", 4);
        for (int i = 0; i < 12; i++) {
            run.picture(1, 0);
            run.runs(i % 3, 1);
        }
        Due.type(run, " ".repeat(300));
        int[] most = {3, 6, 10, 300};
        for (int what = 0; what <= 3; what++) {
            Due.is("the most of count(" + what + ")", run.count(what), most[what]);
        }
        for (int what : new int[] {-1, 4, Integer.MIN_VALUE, Integer.MAX_VALUE}) {
            Due.is("count(" + what + ")", run.count(what), PancakeRun.BAD);
        }
    }
}
