/** Promises 15 and 16: ODDS and ENOUGH. */
final class OddsTest {
    private OddsTest() {
    }

    public static void main(String[] args) {
        surely();
        byOneToss();
        dropTakesBeats();
        runningMayBeBetter();
        beatsThatWentBy();
        atTheEnd();
        moreThanNeed();
        byTwelveTosses();
        enough();
        bad();
        nothingChanges();
        Due.end();
    }

    private static void odds(PancakeRun run, int r, int b, long upper, long lower) {
        Due.is("odds(" + r + ", " + b + ", 0)", run.odds(r, b, 0), upper);
        Due.is("odds(" + r + ", " + b + ", 1)", run.odds(r, b, 1), lower);
    }

    private static void surely() {
        PancakeRun run = Due.reading("lane 4;runner 4 9;need 1;rope 1;", 4);
        odds(run, 0, 0, 0, 1);
        odds(run, 0, 1, 0, 1);
        odds(run, 0, 2, 1, 1);
        odds(run, 0, 24, 1, 1);
    }

    private static void byOneToss() {
        // PAN 3 on the spot: 6 in 10; there is time for one TOSS, and then to run.
        PancakeRun run = Due.reading("lane 4;runner 4 3;need 1;rope 1;drop 9;", 5);
        odds(run, 0, 1, 0, 1);
        odds(run, 0, 2, 3, 5);
        odds(run, 0, 12, 3, 5);
        // Dropped while standing, picked up 9 BEATS later, tossed again: home at 2 + 9 + 2.
        odds(run, 0, 13, 21, 25);
        odds(run, 0, 23, 21, 25);
        odds(run, 0, 24, 117, 125);
    }

    private static void dropTakesBeats() {
        PancakeRun run = Due.reading("lane 4;runner 4 3;need 1;rope 1;drop 1;", 5);
        odds(run, 0, 4, 3, 5);
        odds(run, 0, 5, 21, 25);
        odds(run, 0, 7, 21, 25);
        odds(run, 0, 8, 117, 125);
    }

    private static void runningMayBeBetter() {
        // A TOSS on the run saves the BEATS to run.
        PancakeRun run = Due.reading("lane 8;runner 2 7;need 1;rope 2;", 4);
        odds(run, 0, 3, 0, 1);
        odds(run, 0, 4, 1, 1);
        run = Due.reading("lane 8;runner 4 0;need 1;rope 1;wet 0;wet 4;", 6);
        // On the spot at 0: 1 in 10; running from 0 to the end at 8: 3 in 10, in 2 BEATS.
        odds(run, 0, 2, 3, 10);
        odds(run, 0, 1, 0, 1);
        // For two, the first must be on the spot, the second running.
        run = Due.reading("lane 8;runner 4 0;need 2;rope 1;wet 0;wet 4;", 6);
        odds(run, 0, 4, 3, 100);
    }

    private static void beatsThatWentBy() {
        PancakeRun run = Due.reading("lane 24;runner 4 9;need 1;rope 1;", 4);
        odds(run, 0, 5, 0, 1);
        odds(run, 0, 6, 1, 1);
        run.runs(0, 1);
        odds(run, 0, 5, 0, 1);
        odds(run, 0, 6, 1, 1);
        run.toss(0, 1, 0, 2, 0);
        odds(run, 0, 7, 0, 1);
        odds(run, 0, 8, 1, 1);
        run.runs(0, 9);
        odds(run, 0, 11, 0, 1);
        odds(run, 0, 12, 1, 1);
        run.undo();
        run.toss(0, 1, 0, 0, 0);
        odds(run, 0, 9, 0, 1);
        odds(run, 0, 10, 1, 1);
    }

    private static void atTheEnd() {
        PancakeRun run = Due.reading("lane 4;runner 4 9;need 1;rope 1;", 4);
        run.runs(0, 1);
        odds(run, 0, 24, 0, 1);
        Due.is("enough(0, 1)", run.enough(0, 1), PancakeRun.NONE);
        Due.is("enough(0, 0)", run.enough(0, 0), 0);
        run.undo();
        run.toss(0, 1, 4, 2, 1);
        odds(run, 0, 0, 0, 1);
        odds(run, 0, 1, 0, 1);
        odds(run, 0, 2, 1, 1);
        odds(run, 0, 24, 1, 1);
        Due.is("enough(0, 10)", run.enough(0, 10), 2);
    }

    private static void moreThanNeed() {
        PancakeRun run = Due.reading("lane 5;runner 1 9;need 1;rope 1;", 4);
        for (int i = 0; i < 7; i++) {
            Due.is("toss", run.toss(0, 1, 0, 2, 0), 2);
        }
        odds(run, 0, 18, 0, 1);
        odds(run, 0, 19, 1, 1);
        for (int i = 0; i < 6; i++) {
            run.toss(0, 1, 0, 2, 0);
        }
        odds(run, 0, 24, 0, 1);
        Due.is("enough(0, 1)", run.enough(0, 1), PancakeRun.NONE);
    }

    /** The longest fractions: UP 1, so up to 12 TOSSES; tests that none of it is cut. */
    private static void byTwelveTosses() {
        PancakeRun run = Due.reading("lane 4;runner 4 0;need 4;rope 1;drop 1;", 5);
        odds(run, 0, 8, 81, 10000);
        odds(run, 0, 11, 1539, 50000);
        run = Due.reading("lane 4;runner 1 4;need 4;rope 1;drop 1;", 5);
        odds(run, 0, 8, 2401, 10000);
    }

    private static void enough() {
        PancakeRun run = Due.reading("lane 4;runner 4 3;need 1;rope 1;drop 9;", 5);
        int[] due = {0, 2, 2, 2, 2, 2, 2, 13, 13, 24, PancakeRun.NONE};
        for (int c = 0; c <= 10; c++) {
            Due.is("enough(0, " + c + ")", run.enough(0, c), due[c]);
        }
        run = Due.reading("lane 24;runner 1 9;need 1;rope 1;", 4);
        Due.is("enough(0, 10)", run.enough(0, 10), 24);
        run = Due.reading("lane 24;wind 0 1;runner 1 9;need 4;rope 3;", 5);
        Due.is("enough(0, 10)", run.enough(0, 10), 24);
    }

    private static void bad() {
        PancakeRun run = Due.reading("lane 4;runner 4 3;", 2);
        int[][] bad = {
            {1, 0, 0}, {-1, 0, 0}, {0, -1, 0}, {0, 25, 0}, {0, 0, -1}, {0, 0, 2},
            {0, Integer.MAX_VALUE, 0}, {Integer.MIN_VALUE, 0, 0},
        };
        for (int[] b : bad) {
            Due.is("odds(" + java.util.Arrays.toString(b) + ")",
                run.odds(b[0], b[1], b[2]), PancakeRun.BAD);
        }
        int[][] badEnough = {{1, 0}, {-1, 0}, {0, -1}, {0, 11}, {0, Integer.MIN_VALUE}};
        for (int[] b : badEnough) {
            Due.is("enough(" + java.util.Arrays.toString(b) + ")",
                run.enough(b[0], b[1]), PancakeRun.BAD);
        }
        Due.is("odds() of no RUNNER", new PancakeRun().odds(0, 24, 0), PancakeRun.BAD);
        Due.is("enough() of no RUNNER", new PancakeRun().enough(0, 0), PancakeRun.BAD);
    }

    private static void nothingChanges() {
        PancakeRun run = Due.reading("lane 9;runner 2 3;runner 3 8;", 3);
        run.runs(1, 1);
        long before = run.odds(0, 24, 0);
        run.odds(1, 24, 0);
        run.enough(1, 5);
        Due.is("odds(0, 24, 0) again", run.odds(0, 24, 0), before);
        Due.is("lot(1)", run.lot(1), 1);
        Due.is("count(2)", run.count(2), 1);
        Due.is("runner(0, 3)", run.runner(0, 3), 0);
        Due.is("runner(1, 3)", run.runner(1, 3), 1);
    }
}
