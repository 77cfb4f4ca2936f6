/** Promises 17 to 20: PICTURES, COULD, TOWNS. */
final class PicturesTest {
    private PicturesTest() {
    }

    public static void main(String[] args) {
        pictures();
        could();
        couldOfSeveral();
        towns();
        townsBad();
        Due.end();
    }

    private static void pictures() {
        PancakeRun run = new PancakeRun();
        Due.is("forget()", run.forget(), 0);
        int[][] bad = {{0, 0}, {9, 0}, {1, -1}, {1, 4}, {-1, 0},
            {Integer.MIN_VALUE, 0}, {Integer.MAX_VALUE, 0}, {1, Integer.MAX_VALUE}};
        for (int[] b : bad) {
            Due.is("picture(" + b[0] + ", " + b[1] + ")", run.picture(b[0], b[1]), PancakeRun.BAD);
        }
        for (int i = 1; i <= 6; i++) {
            Due.is("picture(1, 0)", run.picture(1, 0), i);
            Due.is("count(1)", run.count(1), i);
        }
        Due.is("picture(1, 0)", run.picture(1, 0), PancakeRun.FULL);
        Due.is("picture(0, 0)", run.picture(0, 0), PancakeRun.BAD);
        Due.is("picture(1, 4)", run.picture(1, 4), PancakeRun.BAD);
        Due.is("count(1)", run.count(1), 6);
        Due.is("forget()", run.forget(), 6);
        Due.is("forget()", run.forget(), 0);
        Due.is("count(1)", run.count(1), 0);
        Due.is("could(0)", run.could(0), 32);
    }

    private static void could() {
        PancakeRun run = new PancakeRun();
        Due.is("could(0)", run.could(0), 32);
        Due.is("could(1)", run.could(1), 8);
        Due.is("could(2)", run.could(2), PancakeRun.BAD);
        Due.is("could(-1)", run.could(-1), PancakeRun.BAD);
        for (int b = 1; b <= 8; b++) {
            for (int q = 0; q < 4; q++) {
                int pairs = 0;
                int turned = 0;
                for (int t = 0; t < 8; t++) {
                    for (int u = 1; u <= 4; u++) {
                        if (b < 2 * u && (t * b / 2) % 4 == q) {
                            pairs++;
                            turned += t * u % 4 == 2 ? 1 : 0;
                        }
                    }
                }
                run.picture(b, q);
                Due.is("could(0) of " + b + ", " + q, run.could(0), pairs);
                Due.is("could(1) of " + b + ", " + q, run.could(1), turned);
                run.forget();
            }
        }
    }

    private static void couldOfSeveral() {
        PancakeRun run = new PancakeRun();
        run.picture(1, 0);
        Due.is("could(0)", run.could(0), 8);
        run.picture(2, 1);
        Due.is("could(0)", run.could(0), 3);
        Due.is("could(1)", run.could(1), 1);
        run.picture(2, 1);
        Due.is("could(0)", run.could(0), 3);
        run.picture(4, 2);
        Due.is("could(0)", run.could(0), 2);
        Due.is("could(1)", run.could(1), 0);
        run.picture(6, 3);
        Due.is("could(0)", run.could(0), 1);
        run.picture(2, 2);
        Due.is("could(0)", run.could(0), 0);
        Due.is("forget()", run.forget(), 6);
        run.picture(8, 0);
        Due.is("BEAT 8 is down", run.could(0), 0);
        run.forget();
        run.picture(7, 3);
        Due.is("cut", run.could(0), 2);
    }

    private static void towns(int a, int x, int b, int y, int upper, int lower) {
        PancakeRun run = new PancakeRun();
        String call = "towns(" + a + ", " + x + ", " + b + ", " + y + ", ";
        Due.is(call + "0)", run.towns(a, x, b, y, 0), upper);
        Due.is(call + "1)", run.towns(a, x, b, y, 1), lower);
    }

    private static void towns() {
        towns(110, 0, 111, 0, 1, 1);
        towns(110, 0, 110, 0, 0, 1);
        towns(111, 0, 110, 0, 0, 1);
        towns(110, 2, 111, 1, 3, 5);
        towns(100, 50, 100, 50, 50, 101);
        towns(100, 1, 100, 0, 1, 3);
        towns(100, 0, 100, 1, 1, 3);
        towns(100, 1, 100, 1, 1, 3);
        // Ways that end at one whole BEAT, and one that leaves just a pair.
        towns(100, 1, 102, 1, 8, 9);
        towns(102, 1, 100, 1, 0, 1);
        towns(101, 1, 100, 1, 1, 9);
        towns(0, 99, 0, 99, 99, 199);
        towns(0, 0, 0, 99, 99, 199);
        towns(0, 99, 999, 99, 1, 1);
        towns(999, 99, 0, 99, 0, 1);
        towns(999, 99, 999, 98, 99, 199);
    }

    private static void townsBad() {
        PancakeRun run = new PancakeRun();
        int[][] bad = {
            {-1, 0, 0, 0, 0}, {1000, 0, 0, 0, 0}, {0, -1, 0, 0, 0}, {0, 100, 0, 0, 0},
            {0, 0, -1, 0, 0}, {0, 0, 1000, 0, 0}, {0, 0, 0, -1, 0}, {0, 0, 0, 100, 0},
            {0, 0, 0, 0, -1}, {0, 0, 0, 0, 2}, {0, Integer.MAX_VALUE, 0, 0, 0},
            {Integer.MIN_VALUE, 0, 0, 0, 0},
        };
        for (int[] b : bad) {
            Due.is("towns(" + java.util.Arrays.toString(b) + ")",
                run.towns(b[0], b[1], b[2], b[3], b[4]), PancakeRun.BAD);
        }
    }
}
