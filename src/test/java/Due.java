/** What the tests share: they count the answers that are not due, and tell each. */
final class Due {
    private static int asked = 0;
    private static int wrong = 0;

    private Due() {
    }

    static void is(String call, long got, long want) {
        asked++;
        if (got != want) {
            wrong++;
            System.out.println(call + " answered " + got + ", due is " + want);
        }
    }

    static void holds(String what, boolean so) {
        is(what, so ? 1 : 0, 1);
    }

    /** That two long rows of answers are alike. */
    static void same(String what, String got, String want) {
        asked++;
        if (!got.equals(want)) {
            wrong++;
            System.out.println(what + ":\n    " + got + "\n  due is\n    " + want);
        }
    }

    /** Ends the test: with exit code 1, if an answer was wrong or none was asked for. */
    static void end() {
        System.out.println(asked + " asked, " + wrong + " wrong");
        if (wrong != 0 || asked == 0) {
            System.exit(1);
        }
    }

    /** Types all signs of a text (each 0 .. 255) in as few calls as there may be. */
    static void type(PancakeRun run, String signs) {
        for (int at = 0; at < signs.length(); at += 8) {
            int n = Math.min(8, signs.length() - at);
            long bytes = 0;
            for (int i = 0; i < n; i++) {
                bytes = bytes << 8 | signs.charAt(at + i);
            }
            is("type \"" + signs.substring(at, at + n) + "\"", run.type(bytes, n), run.count(3));
        }
    }

    /** An object that has read a text, which must tell so many ITEMS. */
    static PancakeRun reading(String signs, int items) {
        PancakeRun run = new PancakeRun();
        type(run, signs);
        is("lane() of \"" + signs + "\"", run.lane(), items);
        return run;
    }

    /** That a text has its FAULT at the first byte of what stands behind its good part. */
    static void faultBehind(String good, String rest) {
        fault(good + rest, good.length());
    }

    /** That a text has its FAULT at a place, and is left as it is. */
    static void fault(String signs, int place) {
        PancakeRun run = new PancakeRun();
        type(run, signs);
        is("lane() of \"" + signs + "\"", run.lane(), -10 - place);
        is("count(3) behind the FAULT in \"" + signs + "\"", run.count(3), signs.length());
    }
}
