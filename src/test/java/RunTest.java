/** Promises 10 to 14: RUNS, TOSSES, UNDONE, THE LOT, HOME. */
final class RunTest {
    private RunTest() {
    }

    public static void main(String[] args) {
        runs();
        runsRefused();
        tossByTheLot();
        tossOutcomes();
        tossRefused();
        undone();
        undoneOfTen();
        lot();
        home();
        homeOfSeveral();
        Due.end();
    }

    private static void at(PancakeRun run, int r, int yard, int beats, int good) {
        Due.is("runner(" + r + ", 2)", run.runner(r, 2), yard);
        Due.is("runner(" + r + ", 3)", run.runner(r, 3), beats);
        Due.is("runner(" + r + ", 4)", run.runner(r, 4), good);
    }

    private static void runs() {
        PancakeRun run = Due.reading("lane 10;runner 3 5;runner 1 5;", 3);
        Due.is("runs(0, 1)", run.runs(0, 1), 3);
        at(run, 0, 3, 1, 0);
        Due.is("runs(0, 2)", run.runs(0, 2), 9);
        Due.is("runs(0, 9)", run.runs(0, 9), 10);
        at(run, 0, 10, 12, 0);
        at(run, 1, 0, 0, 0);
        Due.is("runs(1, 9)", run.runs(1, 9), 9);
        Due.is("runs(1, 1)", run.runs(1, 1), 10);
        at(run, 1, 10, 10, 0);
    }

    private static void runsRefused() {
        PancakeRun run = Due.reading("lane 4;runner 4 5;", 2);
        int[] badBeats = {0, -1, 10, Integer.MIN_VALUE, Integer.MAX_VALUE};
        for (int n : badBeats) {
            Due.is("runs(0, " + n + ")", run.runs(0, n), PancakeRun.BAD);
        }
        Due.is("runs(1, 1)", run.runs(1, 1), PancakeRun.BAD);
        Due.is("runs(-1, 1)", run.runs(-1, 1), PancakeRun.BAD);
        Due.is("count(2)", run.count(2), 0);
        Due.is("runs(0, 1)", run.runs(0, 1), 4);
        Due.is("runs(0, 1) at n", run.runs(0, 1), PancakeRun.STATE);
        Due.is("runs(0, 0) at n", run.runs(0, 0), PancakeRun.BAD);
        Due.is("count(2)", run.count(2), 1);
        at(run, 0, 4, 1, 0);
    }

    /** THE LOT and DRAW told anew, to know which toss must be caught. */
    private static void tossByTheLot() {
        PancakeRun run = Due.reading("lane 24;runner 1 2;drop 4;", 3);
        int seed = -123456789;
        Due.is("lot(seed)", run.lot(seed), 1);
        long lot = seed;
        int beats = 0;
        int good = 0;
        for (int i = 0; i < 60; i++) {
            lot = (lot * 1103515245L + 12345L) & 0xffffffffL;
            boolean caught = (lot >> 16) % 10 < 5;
            beats += caught ? 4 : 8;
            good += caught ? 1 : 0;
            Due.is("toss " + i, run.toss(0, 2, 0, 1, 0), caught ? 2 : 0);
            at(run, 0, 0, beats, good);
            Due.is("lot", run.lot((int) lot), (int) lot);
        }
        Due.holds("both caught and dropped", good > 10 && good < 50);
    }

    private static void tossOutcomes() {
        PancakeRun run = Due.reading("lane 24;runner 1 9;runner 2 0;rope 3;drop 5;wind 9 3;", 6);
        Due.is("not TURNED", run.toss(0, 3, 0, 0, 0), 1);
        at(run, 0, 0, 6, 0);
        Due.is("below ROPE", run.toss(0, 2, 0, 1, 0), 1);
        at(run, 0, 0, 10, 0);
        Due.is("GOOD", run.toss(0, 3, 0, 2, 0), 2);
        at(run, 0, 0, 16, 1);
        Due.is("GOOD, running", run.toss(0, 3, 6, 6, 1), 2);
        at(run, 0, 6, 22, 2);
        Due.is("UP 4 is never TURNED", run.toss(0, 4, 8, 1, 1), 1);
        at(run, 0, 14, 30, 2);
        Due.is("far off", run.toss(0, 3, 9, 2, 0), 0);
        at(run, 0, 14, 41, 2);
        Due.is("to the end", run.toss(0, 4, 8, 7, 1), 1);
        Due.is("nearly there", run.toss(0, 1, 2, 4, 1), 1);
        at(run, 0, 24, 51, 2);
        Due.is("dropped on the run", run.toss(1, 1, 9, 2, 1), 0);
        at(run, 1, 4, 7, 0);
    }

    private static void tossRefused() {
        PancakeRun run = Due.reading("lane 4;runner 2 9;", 2);
        int[][] bad = {
            {1, 1, 0, 0, 0}, {-1, 1, 0, 0, 0}, {0, 0, 0, 0, 0}, {0, 5, 0, 0, 0}, {0, 1, -1, 0, 0},
            {0, 1, 10, 0, 0}, {0, 1, 0, -1, 0}, {0, 1, 0, 8, 0}, {0, 1, 0, 0, -1}, {0, 1, 0, 0, 2},
            {0, Integer.MAX_VALUE, 0, 0, 0}, {Integer.MIN_VALUE, 1, 0, 0, 0},
        };
        for (int[] b : bad) {
            Due.is("toss(" + java.util.Arrays.toString(b) + ")",
                run.toss(b[0], b[1], b[2], b[3], b[4]), PancakeRun.BAD);
        }
        Due.is("lot(1)", run.lot(1), 1);
        Due.is("count(2)", run.count(2), 0);
        run.runs(0, 2);
        Due.is("toss at n", run.toss(0, 1, 0, 0, 0), PancakeRun.STATE);
        Due.is("bad toss at n", run.toss(0, 0, 0, 0, 0), PancakeRun.BAD);
        Due.is("lot(1)", run.lot(1), 1);
        at(run, 0, 4, 2, 0);
    }

    private static void undone() {
        PancakeRun run = Due.reading("lane 24;runner 2 9;runner 3 4;", 3);
        Due.is("undo()", run.undo(), PancakeRun.STATE);
        run.runs(0, 2);
        Due.is("toss", run.toss(0, 2, 0, 1, 0), 2);
        run.runs(1, 1);
        int lot = run.lot(0);
        run.lot(lot);
        Due.is("undo()", run.undo(), 2);
        at(run, 1, 0, 0, 0);
        at(run, 0, 4, 6, 1);
        Due.is("undo()", run.undo(), 1);
        at(run, 0, 4, 2, 0);
        Due.is("THE LOT stays", run.lot(lot), lot);
        Due.is("undo()", run.undo(), 0);
        at(run, 0, 0, 0, 0);
        Due.is("undo()", run.undo(), PancakeRun.STATE);
        for (int i = 1; i <= 12; i++) {
            Due.is("toss", run.toss(0, 2, 0, 1, 0), 2);
        }
        for (int i = 11; i >= 2; i--) {
            Due.is("undo()", run.undo(), i - 2);
            at(run, 0, 0, 4 * i, i);
        }
    }

    private static void undoneOfTen() {
        PancakeRun run = Due.reading("lane 24;runner 1 9;runner 2 9;", 3);
        for (int i = 1; i <= 12; i++) {
            run.runs(i % 2, 1);
            Due.is("count(2)", run.count(2), Math.min(10, i));
        }
        at(run, 0, 6, 6, 0);
        at(run, 1, 12, 6, 0);
        for (int i = 9; i >= 0; i--) {
            Due.is("undo()", run.undo(), i);
            // The 12 acts were by turns of RUNNER 1 and 0; i + 2 of them are left.
            at(run, 0, (i + 2) / 2, (i + 2) / 2, 0);
            at(run, 1, (i + 3) / 2 * 2, (i + 3) / 2, 0);
        }
        at(run, 0, 1, 1, 0);
        at(run, 1, 2, 1, 0);
        Due.is("undo()", run.undo(), PancakeRun.STATE);
        at(run, 0, 1, 1, 0);
        run.runs(0, 3);
        Due.is("undo()", run.undo(), 0);
        at(run, 0, 1, 1, 0);
    }

    private static void lot() {
        PancakeRun run = new PancakeRun();
        Due.is("lot", run.lot(Integer.MIN_VALUE), 1);
        Due.is("lot", run.lot(Integer.MAX_VALUE), Integer.MIN_VALUE);
        Due.is("lot", run.lot(-1), Integer.MAX_VALUE);
        Due.is("lot", run.lot(0), -1);
        Due.is("count(2)", run.count(2), 0);
    }

    private static void home() {
        PancakeRun run = Due.reading("lane 4;runner 2 9;need 1;rope 1;", 4);
        Due.is("home(2)", run.home(2), PancakeRun.BAD);
        Due.is("home(-1)", run.home(-1), PancakeRun.BAD);
        Due.is("home(0)", run.home(0), 0);
        Due.is("home(1)", run.home(1), PancakeRun.NONE);
        run.runs(0, 2);
        Due.is("without one", run.home(0), 0);
        Due.is("without one", run.runner(0, 5), 0);
        run.undo();
        run.toss(0, 1, 0, 2, 0);
        Due.is("not yet at n", run.home(0), 0);
        run.toss(0, 1, 0, 2, 0);
        run.runs(0, 2);
        Due.is("one more than NEED", run.runner(0, 4), 2);
        Due.is("one more than NEED", run.runner(0, 5), 1);
        Due.is("home(0)", run.home(0), 1);
        Due.is("home(1)", run.home(1), 0);
    }

    private static void homeOfSeveral() {
        PancakeRun run = Due.reading("lane 4;runner 1 9;runner 2 9;runner 2 9;need 1;rope 1;", 6);
        run.toss(0, 1, 2, 2, 1);
        run.runs(0, 2);
        Due.is("home(0)", run.home(0), 1);
        Due.is("home(1)", run.home(1), 0);
        run.toss(2, 1, 4, 2, 1);
        Due.is("home(0)", run.home(0), 5);
        Due.is("home(1)", run.home(1), 2);
        run.toss(1, 1, 4, 2, 1);
        Due.is("home(0)", run.home(0), 7);
        Due.is("the least of several", run.home(1), 1);
        run.undo();
        Due.is("home(1)", run.home(1), 2);
        run.undo();
        Due.is("home(0)", run.home(0), 1);
    }
}
