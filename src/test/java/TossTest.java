/** Promises 8 and 9: where a TOSS comes, and the BEST. */
final class TossTest {
    private TossTest() {
    }

    public static void main(String[] args) {
        comesStanding();
        comesRunning();
        wetAndFlat();
        bounds();
        comesBad();
        best();
        bestOfSeveral();
        bestBad();
        nothingChanges();
        Due.end();
    }

    private static PancakeRun windy() {
        return Due.reading("lane 10;wind 2 3;wind 6 1;wet 4;wet 8;runner 2 5;runner 1 9;"
            + "runner 4 0;rope 2;", 9);
    }

    private static void comes(PancakeRun run, int[] toss, int... due) {
        for (int what = 0; what < due.length; what++) {
            Due.is("comes(" + java.util.Arrays.toString(toss) + ", " + what + ")",
                run.comes(toss[0], toss[1], toss[2], toss[3], toss[4], toss[5], what), due[what]);
        }
    }

    private static void comesStanding() {
        PancakeRun run = windy();
        comes(run, new int[] {0, 0, 2, 0, 1, 0}, 0, 0, 2, 1, 8);
        comes(run, new int[] {0, 0, 2, 1, 1, 0}, 1, 0, 2, 1, 5);
        comes(run, new int[] {0, 2, 4, 0, 0, 0}, -10, 2, 0, 0, 0);
        comes(run, new int[] {0, 2, 2, 5, 2, 0}, 1, 2, 4, 0, 5);
        comes(run, new int[] {0, 2, 2, 7, 3, 0}, 3, 2, 6, 1, 5);
        comes(run, new int[] {0, 9, 1, 9, 7, 0}, 18, 9, 7, 0, 0);
        comes(run, new int[] {1, 6, 3, 3, 2, 0}, 6, 6, 6, 1, 10);
        comes(run, new int[] {2, 0, 1, 0, 2, 0}, 0, 0, 2, 1, 3);
        comes(run, new int[] {2, 0, 1, 1, 2, 0}, 1, 0, 2, 1, 0);
    }

    private static void comesRunning() {
        PancakeRun run = windy();
        comes(run, new int[] {0, 0, 2, 8, 1, 1}, 8, 8, 2, 1, 6);
        comes(run, new int[] {0, 1, 2, 8, 1, 1}, 9, 9, 2, 1, 8);
        comes(run, new int[] {0, 2, 2, 9, 1, 1}, 5, 10, 2, 1, 0);
        comes(run, new int[] {0, 5, 3, 5, 2, 1}, 10, 10, 6, 1, 8);
        comes(run, new int[] {1, 0, 4, 9, 7, 1}, 9, 8, 28, 0, 7);
        comes(run, new int[] {2, 9, 4, 1, 5, 1}, 10, 10, 20, 0, 3);
    }

    private static void wetAndFlat() {
        PancakeRun run = windy();
        comes(run, new int[] {0, 4, 1, 0, 0, 0}, 4, 4, 0, 0, 6);
        comes(run, new int[] {0, 4, 1, 0, 1, 0}, 4, 4, 1, 0, 4);
        comes(run, new int[] {0, 3, 1, 0, 3, 0}, 3, 3, 3, 0, 6);
        // Wet counts where one is then, not where one was.
        comes(run, new int[] {0, 4, 1, 4, 2, 1}, 8, 8, 2, 1, 6);
        comes(run, new int[] {0, 4, 2, 6, 2, 1}, 10, 10, 4, 0, 8);
        comes(run, new int[] {0, 8, 1, 2, 2, 1}, 10, 10, 2, 1, 8);
    }

    private static void bounds() {
        PancakeRun run = windy();
        comes(run, new int[] {1, 0, 1, 0, 0, 0}, 0, 0, 0, 0, 10);
        comes(run, new int[] {1, 0, 1, 0, 1, 0}, 0, 0, 1, 0, 10);
        comes(run, new int[] {1, 4, 1, 0, 1, 0}, 4, 4, 1, 0, 8);
        comes(run, new int[] {1, 0, 1, 9, 1, 0}, 9, 0, 1, 0, 0);
    }

    private static void comesBad() {
        PancakeRun run = windy();
        int[][] bad = {
            {3, 0, 1, 0, 0, 0, 0}, {-1, 0, 1, 0, 0, 0, 0}, {0, -1, 1, 0, 0, 0, 0},
            {0, 10, 1, 0, 0, 0, 0}, {0, 0, 0, 0, 0, 0, 0}, {0, 0, 5, 0, 0, 0, 0},
            {0, 0, 1, -1, 0, 0, 0}, {0, 0, 1, 10, 0, 0, 0}, {0, 0, 1, 0, -1, 0, 0},
            {0, 0, 1, 0, 8, 0, 0}, {0, 0, 1, 0, 0, -1, 0}, {0, 0, 1, 0, 0, 2, 0},
            {0, 0, 1, 0, 0, 0, -1}, {0, 0, 1, 0, 0, 0, 5},
            {Integer.MIN_VALUE, 0, 1, 0, 0, 0, 0}, {0, Integer.MAX_VALUE, 1, 0, 0, 0, 0},
            {0, 0, Integer.MAX_VALUE, 0, 0, 0, 0}, {0, 0, 1, Integer.MIN_VALUE, 0, 0, 0},
        };
        for (int[] b : bad) {
            Due.is("comes(" + java.util.Arrays.toString(b) + ")",
                run.comes(b[0], b[1], b[2], b[3], b[4], b[5], b[6]), PancakeRun.NO);
        }
        Due.is("comes() of no RUNNER", new PancakeRun().comes(0, 0, 1, 0, 0, 0, 0), PancakeRun.NO);
    }

    private static void best() {
        PancakeRun run = windy();
        Due.is("best(0, 0, 0, 0)", run.best(0, 0, 0, 0), 8);
        Due.is("best(0, 0, 0, 1)", run.best(0, 0, 0, 1), 201);
        Due.is("best(0, 2, 0, 0)", run.best(0, 2, 0, 0), 8);
        Due.is("best(0, 2, 0, 1)", run.best(0, 2, 0, 1), 261);
        // Running from 0 one would be at the wet 8 with UP 2, at the end with UP 3.
        Due.is("best(0, 0, 1, 0)", run.best(0, 0, 1, 0), 6);
        Due.is("best(0, 0, 1, 1)", run.best(0, 0, 1, 1), 281);
        Due.is("best(0, 1, 1, 1)", run.best(0, 1, 1, 1), 281);
        Due.is("best(2, 0, 1, 0)", run.best(2, 0, 1, 0), 0);
        Due.is("best(2, 0, 1, 1)", run.best(2, 0, 1, 1), 201);
        Due.is("best(0, 4, 1, 0)", run.best(0, 4, 1, 0), 8);
        Due.is("best(0, 4, 1, 1)", run.best(0, 4, 1, 1), 261);
        Due.is("best(1, 9, 1, 1)", run.best(1, 9, 1, 1), 211);
    }

    private static void bestOfSeveral() {
        // Each UP has a FORWARD that is caught for sure: the least UP is the best.
        PancakeRun run = Due.reading("runner 1 9;rope 1;", 2);
        Due.is("rope 1", run.best(0, 0, 0, 1), 102);
        run = Due.reading("runner 1 9;rope 3;", 2);
        Due.is("rope 3", run.best(0, 0, 0, 1), 302);
        run = Due.reading("runner 1 9;rope 3;wind 0 1;", 3);
        Due.is("rope 3, wind 1", run.best(0, 0, 0, 1), 332);
        run = Due.reading("runner 1 9;rope 1;wind 0 1;", 3);
        Due.is("rope 1, wind 1", run.best(0, 0, 0, 1), 112);
        // None can be caught: the least of all is the best.
        run = Due.reading("lane 24;runner 4 0;wind 0 3;", 3);
        Due.is("all at 0", run.best(0, 0, 1, 0), 0);
        Due.is("all at 0", run.best(0, 0, 1, 1), 201);
        // One more UP is better only if one comes to the end by it, where it is not wet.
        run = Due.reading("lane 12;runner 3 5;rope 1;wet 6;", 4);
        Due.is("wet at UP 1", run.best(0, 0, 1, 0), 6);
        Due.is("wet at UP 1", run.best(0, 0, 1, 1), 162);
        // UP 4 alone would come to the end, but no turn makes it TURNED.
        run = Due.reading("lane 8;runner 1 5;rope 1;wet 2;wet 4;wet 6;", 6);
        Due.is("never UP 4", run.best(0, 0, 1, 0), 6);
        Due.is("never UP 4", run.best(0, 0, 1, 1), 122);
        run = Due.reading("lane 9;runner 3 5;rope 1;wet 6;", 4);
        Due.is("end at UP 2", run.best(0, 0, 1, 0), 8);
        Due.is("end at UP 2", run.best(0, 0, 1, 1), 291);
    }

    private static void bestBad() {
        PancakeRun run = windy();
        int[][] bad = {
            {-1, 0, 0, 0}, {3, 0, 0, 0}, {0, -1, 0, 0}, {0, 10, 0, 0}, {0, 0, -1, 0}, {0, 0, 2, 0},
            {0, 0, 0, -1}, {0, 0, 0, 2}, {0, Integer.MAX_VALUE, 0, 0}, {Integer.MIN_VALUE, 0, 0, 0},
        };
        for (int[] b : bad) {
            Due.is("best(" + java.util.Arrays.toString(b) + ")",
                run.best(b[0], b[1], b[2], b[3]), PancakeRun.BAD);
        }
        Due.is("best() of no RUNNER", new PancakeRun().best(0, 0, 0, 0), PancakeRun.BAD);
    }

    private static void nothingChanges() {
        PancakeRun run = windy();
        run.comes(0, 0, 2, 8, 1, 1, 4);
        run.best(0, 0, 1, 1);
        Due.is("runner(0, 2)", run.runner(0, 2), 0);
        Due.is("runner(0, 3)", run.runner(0, 3), 0);
        Due.is("count(2)", run.count(2), 0);
        Due.is("lot(1)", run.lot(1), 1);
        // They ask of any YARD, wherever the RUNNER is, also at the end.
        run.runs(0, 9);
        Due.is("runner(0, 2)", run.runner(0, 2), 10);
        Due.is("comes() at 0", run.comes(0, 0, 2, 0, 1, 0, 4), 8);
        Due.is("best() at 0", run.best(0, 0, 0, 1), 201);
    }
}
