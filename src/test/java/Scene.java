/** An object in the midst of a run, and all that can be seen of one: to tell that nothing changed. */
final class Scene {
    static final String TEXT = "lane 9;wind 3 2;wet 4;runner 4 9;runner 2 6;runner 1 0;"
        + "rope 1;need 2;drop 4;";
    static final int ITEMS = 9;

    private Scene() {
    }

    /** RUNNER 0 is HOME, acts and PICTURES and both IMAGES and THE TRACE are there, and a text is begun. */
    static PancakeRun begun() {
        PancakeRun run = Due.reading(TEXT, ITEMS);
        Due.is("toss in the scene", run.toss(0, 1, 0, 2, 0), 2);
        run.keep(0);
        Due.is("toss in the scene", run.toss(0, 1, 8, 2, 1), 2);
        Due.is("runs in the scene", run.runs(0, 1), 9);
        Due.is("runs in the scene", run.runs(1, 1), 2);
        run.toss(2, 1, 0, 1, 0);
        run.lot(-77);
        run.keep(1);
        run.runs(1, 1);
        run.toss(1, 2, 3, 1, 0);
        run.picture(1, 0);
        run.picture(2, 1);
        run.rate(4, 2, 1);
        Due.type(run, "lane 6;wet 3;runner 2 2;");
        return run;
    }

    /** All that an object tells. It is used up by this: it ends with THE TEXT read. */
    static String all(PancakeRun run) {
        StringBuilder seen = new StringBuilder();
        look(run, seen);
        int left = run.undo();
        for (int i = 0; i < 11 && left >= 0; i++) {
            seen.append(" undo ").append(left);
            lookAtRunners(run, seen);
            left = run.undo();
        }
        for (int image = 0; image <= 1; image++) {
            seen.append(" back ").append(run.back(image));
            lookAtRunners(run, seen);
            lookAtLot(run, seen);
        }
        seen.append(" lane ").append(run.lane());
        look(run, seen);
        return seen.toString();
    }

    private static void look(PancakeRun run, StringBuilder seen) {
        seen.append(" told");
        for (int what = 0; what <= 3; what++) {
            seen.append(' ').append(run.told(what)).append(' ').append(run.count(what));
        }
        seen.append(" yards");
        for (int y = 0; y < 24; y++) {
            seen.append(' ').append(run.yard(y, 0)).append(' ').append(run.yard(y, 1));
        }
        lookAtRunners(run, seen);
        lookAtLot(run, seen);
        seen.append(" rest ").append(run.home(0)).append(' ').append(run.home(1));
        seen.append(' ').append(run.could(0)).append(' ').append(run.could(1));
        seen.append(' ').append(run.trace());
    }

    private static void lookAtRunners(PancakeRun run, StringBuilder seen) {
        seen.append(" runners");
        for (int r = 0; r <= 2; r++) {
            for (int what = 0; what <= 5; what++) {
                seen.append(' ').append(run.runner(r, what));
            }
        }
    }

    private static void lookAtLot(PancakeRun run, StringBuilder seen) {
        int lot = run.lot(0);
        run.lot(lot);
        seen.append(" lot ").append(lot);
    }
}
