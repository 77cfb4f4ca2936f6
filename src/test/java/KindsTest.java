/** Promises 21 to 25: RATE, IMAGES, counts, THE TRACE. */
final class KindsTest {
    private KindsTest() {
    }

    public static void main(String[] args) {
        rates();
        ratesFollowTheLane();
        ratesBad();
        traced();
        images();
        imagesRefused();
        imagesKeepNothingElse();
        counts();
        Due.end();
    }

    private static void rates() {
        PancakeRun run = new PancakeRun();
        for (int u = 1; u <= 4; u++) {
            for (int t = 0; t <= 7; t++) {
                String of = ", " + u + ", " + t + ")";
                Due.is("rate(0" + of, run.rate(0, u, t), 2 * u);
                Due.is("rate(1" + of, run.rate(1, u, t), 2 * u + u * t);
                Due.is("rate(2" + of, run.rate(2, u, t), 2 * u - t);
                Due.is("rate(3" + of, run.rate(3, u, t), 2 * (2 * u + u * t));
                Due.is("rate(4" + of, run.rate(4, u, t), 2 * u - t + 3);
                Due.is("rate(5" + of, run.rate(5, u, t), 2 * u - 2);
            }
        }
    }

    private static void ratesFollowTheLane() {
        PancakeRun run = Due.reading("rope 3;drop 9;", 2);
        Due.is("rate(4, 1, 7)", run.rate(4, 1, 7), 4);
        Due.is("rate(5, 1, 7)", run.rate(5, 1, 7), -1);
        Due.is("rate(2, 1, 7)", run.rate(2, 1, 7), -5);
    }

    private static void ratesBad() {
        PancakeRun run = new PancakeRun();
        int[][] bad = {{-1, 1, 0}, {6, 1, 0}, {0, 0, 0}, {0, 5, 0}, {0, 1, -1}, {0, 1, 8},
            {Integer.MAX_VALUE, 1, 0}, {0, Integer.MIN_VALUE, 0}, {3, 1, Integer.MAX_VALUE},
            {6, 0, 8}, {5, 1, 8}};
        for (int[] b : bad) {
            Due.is("rate(" + java.util.Arrays.toString(b) + ")",
                run.rate(b[0], b[1], b[2]), PancakeRun.NO);
        }
        Due.is("trace()", run.trace(), 0);
    }

    private static void traced() {
        long[] adds = {1, 11, 101, 1011, 10101, 100001};
        PancakeRun run = new PancakeRun();
        long due = 0;
        for (int kind = 0; kind < 6; kind++) {
            run.rate(kind, 1, 1);
            due += adds[kind];
            Due.is("trace() behind " + kind, run.trace(), due);
        }
        run = new PancakeRun();
        for (int i = 0; i < 400; i++) {
            run.rate(5, 4, 7);
        }
        Due.is("trace() behind many", run.trace(), 400 * 100001L);
        Due.is("another object's trace()", new PancakeRun().trace(), 0);
        run = Due.reading("lane 4;runner 1 1;", 2);
        run.rate(0, 1, 0);
        run.keep(0);
        run.runs(0, 1);
        run.rate(1, 1, 0);
        run.undo();
        Due.is("trace() goes on behind undo()", run.trace(), 12);
        run.back(0);
        Due.is("trace() goes on behind back()", run.trace(), 12);
        run.lane();
        Due.is("trace() goes on behind lane()", run.trace(), 12);
    }

    private static void at(PancakeRun run, int r, int yard, int beats, int good) {
        Due.is("runner(" + r + ", 2)", run.runner(r, 2), yard);
        Due.is("runner(" + r + ", 3)", run.runner(r, 3), beats);
        Due.is("runner(" + r + ", 4)", run.runner(r, 4), good);
    }

    private static void images() {
        PancakeRun run = Due.reading("lane 4;runner 2 9;runner 1 9;need 1;rope 1;", 5);
        Due.is("keep(0)", run.keep(0), 0);
        run.toss(0, 1, 4, 2, 1);
        run.runs(1, 3);
        int lot = run.lot(5);
        run.lot(lot);
        Due.is("keep(1)", run.keep(1), 1);
        run.runs(1, 1);
        run.lot(5);
        Due.is("back(1)", run.back(1), 1);
        at(run, 0, 4, 2, 1);
        at(run, 1, 3, 3, 0);
        Due.is("THE LOT", run.lot(9), lot);
        Due.is("nothing to undo", run.undo(), PancakeRun.STATE);
        Due.is("back(0)", run.back(0), 0);
        at(run, 0, 0, 0, 0);
        at(run, 1, 0, 0, 0);
        Due.is("THE LOT", run.lot(9), 1);
        Due.is("back(1) once more", run.back(1), 1);
        Due.is("keep(0) over it", run.keep(0), 1);
        run.runs(1, 1);
        Due.is("back(0)", run.back(0), 1);
        at(run, 0, 4, 2, 1);
        at(run, 1, 3, 3, 0);
        Due.is("THE LOT", run.lot(9), lot);
        run.runs(1, 1);
        Due.is("keep() leaves acts to undo", run.keep(0), 1);
        Due.is("undo()", run.undo(), 0);
        at(run, 1, 3, 3, 0);
    }

    private static void imagesRefused() {
        PancakeRun run = Due.reading("lane 4;runner 2 9;", 2);
        int[] bad = {-1, 2, Integer.MIN_VALUE, Integer.MAX_VALUE};
        for (int image : bad) {
            Due.is("keep(" + image + ")", run.keep(image), PancakeRun.BAD);
            Due.is("back(" + image + ")", run.back(image), PancakeRun.BAD);
        }
        run.runs(0, 1);
        Due.is("back(0)", run.back(0), PancakeRun.STATE);
        Due.is("back(1)", run.back(1), PancakeRun.STATE);
        Due.is("count(2)", run.count(2), 1);
        run.keep(1);
        Due.is("back(0)", run.back(0), PancakeRun.STATE);
        Due.is("count(2)", run.count(2), 1);
        Due.is("back(1)", run.back(1), 0);
        Due.type(run, "runner 1 1;");
        run.lane();
        Due.is("gone behind lane()", run.back(1), PancakeRun.STATE);
    }

    private static void imagesKeepNothingElse() {
        PancakeRun run = Due.reading("lane 4;runner 2 9;", 2);
        run.picture(1, 1);
        run.keep(0);
        run.picture(2, 2);
        Due.type(run, "wet");
        run.rate(0, 1, 1);
        run.back(0);
        Due.is("PICTURES stay", run.count(1), 2);
        Due.is("THE TEXT stays", run.count(3), 3);
        Due.is("THE TRACE stays", run.trace(), 1);
        Due.is("told(0)", run.told(0), 4);
    }

    private static void counts() {
        PancakeRun run = Due.reading("lane 4;runner 2 9;runner 1 1;", 3);
        run.picture(1, 1);
        Due.type(run, "wet 1;");
        run.runs(0, 1);
        run.runs(0, 1);
        run.runs(1, 1);
        Due.is("count(0)", run.count(0), 2);
        Due.is("count(1)", run.count(1), 1);
        Due.is("count(2)", run.count(2), 3);
        Due.is("count(3)", run.count(3), 6);
        int[] bad = {-1, 4, Integer.MIN_VALUE, Integer.MAX_VALUE};
        for (int what : bad) {
            Due.is("count(" + what + ")", run.count(what), PancakeRun.BAD);
        }
    }
}
