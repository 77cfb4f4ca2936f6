/** The edges that part 2 of the document and promise 8 name of a TOSS, a sentence at a time. */
final class TossEdgesTest {
    private static final int DOWN = 0, THERE = 1, QUARTERS = 2, TURNED = 3, CATCH = 4;

    private TossEdgesTest() {
    }

    public static void main(String[] args) {
        comesDown();
        quarters();
        turned();
        standsOrRuns();
        runsToTheEndAtMost();
        off();
        flat();
        wet();
        wetAtBothEnds();
        noneAtLeast();
        tenAtMost();
        anyYardOfTheLane();
        Due.end();
    }

    /** "comes DOWN at the YARD and f less u times the WIND": also ahead of 0 and behind n. */
    private static void comesDown() {
        PancakeRun run = Due.reading("lane 24;runner 1 0;wind 0 3;wind 1 1;wind 2 2;wind 22 3;", 6);
        int[] wind = new int[24];
        wind[0] = 3;
        wind[1] = 1;
        wind[2] = 2;
        wind[22] = 3;
        for (int y : new int[] {0, 1, 2, 3, 22, 23}) {
            for (int u = 1; u <= 4; u++) {
                for (int f = 0; f <= 9; f++) {
                    int due = y + f - u * wind[y];
                    Due.is("DOWN from " + y, run.comes(0, y, u, f, 0, 0, DOWN), due);
                    Due.is("DOWN from " + y + ", running", run.comes(0, y, u, f, 7, 1, DOWN), due);
                }
            }
        }
        Due.is("the least", run.comes(0, 0, 4, 0, 0, 0, DOWN), -12);
        Due.is("the greatest", run.comes(0, 23, 1, 9, 0, 0, DOWN), 32);
        Due.is("as far as BAD", run.comes(0, 2, 2, 1, 0, 0, DOWN), PancakeRun.BAD);
    }

    /** "has made t times u QUARTERS of a turn": 0 .. 28. */
    private static void quarters() {
        PancakeRun run = Due.reading("runner 1 0;", 1);
        for (int u = 1; u <= 4; u++) {
            for (int t = 0; t <= 7; t++) {
                Due.is("QUARTERS of " + u + ", " + t, run.comes(0, 0, u, 0, t, t % 2, QUARTERS), t * u);
            }
        }
    }

    /** "TURNED: 2 more than a number that 4 divides": 0 is not, 2 is the least. */
    private static void turned() {
        PancakeRun run = Due.reading("runner 1 0;", 1);
        int[][] due = {
            {0, 0, 1, 0, 0, 0, 1, 0}, {0, 1, 0, 1, 0, 1, 0, 1},
            {0, 0, 1, 0, 0, 0, 1, 0}, {0, 0, 0, 0, 0, 0, 0, 0},
        };
        for (int u = 1; u <= 4; u++) {
            for (int t = 0; t <= 7; t++) {
                Due.is("TURNED by " + u + ", " + t, run.comes(0, 0, u, 0, t, 0, TURNED), due[u - 1][t]);
            }
        }
    }

    /** "Who stands is at the YARD then, who runs at the YARD and PACE times 2 u". */
    private static void standsOrRuns() {
        PancakeRun run = Due.reading("lane 24;runner 1 0;runner 2 0;runner 3 0;", 4);
        for (int r = 0; r <= 2; r++) {
            for (int u = 1; u <= 4; u++) {
                Due.is("stands", run.comes(r, 0, u, 0, 0, 0, THERE), 0);
                Due.is("stands", run.comes(r, 23, u, 9, 0, 0, THERE), 23);
                Due.is("runs", run.comes(r, 0, u, 0, 0, 1, THERE), Math.min(24, (r + 1) * 2 * u));
            }
        }
    }

    /** "(the end, n, at most)": one YARD ahead of it, right at it, beyond it. */
    private static void runsToTheEndAtMost() {
        PancakeRun run = Due.reading("lane 10;runner 1 0;runner 4 9;", 3);
        int[] from = {6, 7, 8, 9};
        int[] to = {8, 9, 10, 10};
        for (int i = 0; i < 4; i++) {
            Due.is("from " + from[i], run.comes(0, from[i], 1, 0, 0, 1, THERE), to[i]);
        }
        Due.is("far beyond", run.comes(1, 9, 4, 0, 0, 1, THERE), 10);
        Due.is("just ahead", run.comes(1, 1, 1, 0, 0, 1, THERE), 9);
        Due.is("right at", run.comes(1, 2, 1, 0, 0, 1, THERE), 10);
        // Caught at the end, not beyond it: it must come DOWN at n.
        Due.is("DOWN at n", run.comes(1, 9, 4, 1, 0, 1, CATCH), 10);
        Due.is("DOWN beyond n", run.comes(1, 9, 4, 5, 0, 1, CATCH), 0);
        run = Due.reading("lane 24;runner 4 0;runner 3 0;", 3);
        Due.is("24 from 0", run.comes(0, 0, 3, 0, 0, 1, THERE), 24);
        Due.is("32 from 0", run.comes(0, 0, 4, 0, 0, 1, THERE), 24);
        Due.is("24 from 0", run.comes(1, 0, 4, 0, 0, 1, THERE), 24);
        Due.is("16 from 0", run.comes(0, 0, 2, 0, 0, 1, THERE), 16);
    }

    /** "OFF: how far it comes DOWN from there", on either side alike; 3 less for each. */
    private static void off() {
        PancakeRun run = Due.reading("lane 20;runner 1 6;wind 5 1;wind 6 2;wind 7 3;", 5);
        // UP 1 from 5 is blown back by 1, from 6 by 2, from 7 by 3.
        int[] due = {9, 6, 3, 0, 0};
        for (int back = 1; back <= 3; back++) {
            for (int f = 0; f <= 7; f++) {
                int off = Math.abs(f - back);
                Due.is("OFF " + off, run.comes(0, 4 + back, 1, f, 0, 0, CATCH), due[Math.min(4, off)]);
            }
        }
        // Running with PACE 1 and UP 2 one is 4 farther on.
        for (int f = 0; f <= 9; f++) {
            int off = Math.abs(f - 4);
            Due.is("OFF " + off + ", running", run.comes(0, 8, 2, f, 0, 1, CATCH), due[Math.min(4, off)]);
        }
    }

    /** "less 2, if it is not FLAT", "FLAT: QUARTERS are even": 0 is, too; once only, however odd. */
    private static void flat() {
        PancakeRun run = Due.reading("runner 1 5;", 1);
        for (int u = 1; u <= 4; u++) {
            for (int t = 0; t <= 7; t++) {
                boolean odd = u != 2 && u != 4 && t % 2 == 1;
                Due.is("CATCH of " + u + ", " + t, run.comes(0, 0, u, 0, t, 0, CATCH), odd ? 6 : 8);
            }
        }
    }

    /** "less 2, if the YARD at which one is then is WET": not where one was, not where it comes DOWN. */
    private static void wet() {
        PancakeRun run = Due.reading("lane 20;wet 4;wet 6;wet 11;runner 1 5;", 5);
        Due.is("stands in it", run.comes(0, 4, 1, 0, 0, 0, CATCH), 6);
        Due.is("stands beside it", run.comes(0, 3, 1, 0, 0, 0, CATCH), 8);
        Due.is("stands beside it", run.comes(0, 5, 1, 0, 0, 0, CATCH), 8);
        Due.is("runs out of it", run.comes(0, 6, 1, 2, 0, 1, CATCH), 8);
        Due.is("runs into it", run.comes(0, 9, 1, 2, 0, 1, CATCH), 6);
        Due.is("from wet to wet", run.comes(0, 4, 1, 2, 0, 1, CATCH), 6);
        Due.is("it comes DOWN in it", run.comes(0, 5, 1, 1, 0, 0, CATCH), 5);
        Due.is("wet and not FLAT", run.comes(0, 4, 1, 0, 1, 0, CATCH), 4);
    }

    /** "(the end is not)": at n, with all YARDS WET; YARDS 0 and n - 1 are. */
    private static void wetAtBothEnds() {
        PancakeRun run = Due.reading("lane 4;wet 0;wet 1;wet 2;wet 3;runner 1 5;runner 4 5;", 7);
        Due.is("at 0", run.comes(0, 0, 1, 0, 0, 0, CATCH), 6);
        Due.is("at n - 1", run.comes(0, 3, 1, 0, 0, 0, CATCH), 6);
        Due.is("to n - 1", run.comes(0, 1, 1, 2, 0, 1, CATCH), 6);
        Due.is("to n", run.comes(0, 2, 1, 2, 0, 1, CATCH), 8);
        Due.is("beyond n", run.comes(1, 3, 4, 1, 0, 1, CATCH), 8);
        run = Due.reading("lane 24;wet 23;runner 4 5;runner 1 5;", 4);
        Due.is("at 23", run.comes(0, 23, 1, 0, 0, 0, CATCH), 6);
        Due.is("at 24", run.comes(0, 23, 1, 1, 0, 1, CATCH), 8);
        Due.is("to 23", run.comes(1, 21, 1, 2, 0, 1, CATCH), 6);
    }

    /** "0 at least": where the sum is 1, 0, just below, far below. */
    private static void noneAtLeast() {
        PancakeRun run = Due.reading("lane 20;wet 1;runner 1 0;runner 1 1;runner 1 4;", 5);
        Due.is("sum 1", run.comes(0, 0, 1, 0, 1, 0, CATCH), 1);
        Due.is("sum 0", run.comes(0, 0, 1, 1, 0, 0, CATCH), 0);
        Due.is("sum 1", run.comes(1, 0, 1, 1, 0, 0, CATCH), 1);
        Due.is("sum -1", run.comes(1, 0, 1, 1, 1, 0, CATCH), 0);
        Due.is("sum -2", run.comes(0, 0, 1, 1, 1, 0, CATCH), 0);
        Due.is("sum -4", run.comes(0, 1, 1, 1, 1, 0, CATCH), 0);
        Due.is("sum -1 of wet and not FLAT", run.comes(0, 1, 1, 0, 1, 0, CATCH), 0);
        Due.is("sum 1", run.comes(2, 0, 1, 2, 0, 0, CATCH), 1);
        Due.is("sum -24", run.comes(0, 0, 1, 9, 0, 0, CATCH), 0);
    }

    /** "10 at most": where the sum is 9, 10, 11, 12; it is cut behind all that is taken off. */
    private static void tenAtMost() {
        PancakeRun run = Due.reading("lane 20;wet 1;runner 1 6;runner 1 7;runner 1 8;", 5);
        Due.is("sum 9", run.comes(0, 0, 1, 0, 0, 0, CATCH), 9);
        Due.is("sum 10", run.comes(1, 0, 1, 0, 0, 0, CATCH), 10);
        Due.is("sum 11", run.comes(2, 0, 1, 0, 0, 0, CATCH), 10);
        Due.is("sum 11 less 2", run.comes(2, 0, 1, 0, 1, 0, CATCH), 9);
        Due.is("sum 11 less 3", run.comes(2, 0, 1, 1, 0, 0, CATCH), 8);
        run = Due.reading("lane 20;wet 1;runner 1 9;", 3);
        Due.is("sum 12", run.comes(0, 0, 1, 0, 0, 0, CATCH), 10);
        Due.is("sum 12 less 2", run.comes(0, 0, 1, 0, 1, 0, CATCH), 10);
        Due.is("sum 12 less 2, wet", run.comes(0, 1, 1, 0, 0, 0, CATCH), 10);
        Due.is("sum 12 less 4", run.comes(0, 1, 1, 0, 1, 0, CATCH), 8);
    }

    /** "NO: BAD (YARD 0 .. n - 1)", wherever the RUNNER is, and however long the LANE. */
    private static void anyYardOfTheLane() {
        for (int n : new int[] {4, 12, 24}) {
            PancakeRun run = Due.reading("lane " + n + ";runner 4 9;", 2);
            for (int i = 0; i <= 1; i++) {
                Due.is("at -1", run.comes(0, -1, 1, 0, 0, 0, DOWN), PancakeRun.NO);
                Due.is("at 0", run.comes(0, 0, 1, 0, 0, 0, DOWN), 0);
                Due.is("at n - 1", run.comes(0, n - 1, 1, 0, 0, 0, DOWN), n - 1);
                Due.is("at n", run.comes(0, n, 1, 0, 0, 0, DOWN), PancakeRun.NO);
                run.runs(0, 9);
                Due.is("the RUNNER is at n", run.runner(0, 2), n);
            }
        }
    }
}
