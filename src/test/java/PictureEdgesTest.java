/** The edges that the document and promises 17 to 20 name of PICTURES and TOWNS, a sentence at a time. */
final class PictureEdgesTest {
    private PictureEdgesTest() {
    }

    public static void main(String[] args) {
        sixAtMost();
        beatsOneToEight();
        quartersNoneToThree();
        noPictures();
        inTheAirThen();
        leftOverByFour();
        halvesCut();
        allOfThem();
        turnedOfThese();
        noneCould();
        towns();
        lessNotAlike();
        slipsApartAndAlike();
        timesFromNone();
        townsInLeastTerms();
        slipsNoneToNinetyNine();
        Due.end();
    }

    private static void could(PancakeRun run, int pairs, int turned) {
        Due.is("could(0)", run.could(0), pairs);
        Due.is("could(1)", run.could(1), turned);
    }

    /** "PICTURE (6 at most)": the sixth is one, a seventh is FULL, and again behind forget(). */
    private static void sixAtMost() {
        PancakeRun run = new PancakeRun();
        for (int round = 0; round < 2; round++) {
            for (int i = 1; i <= 6; i++) {
                // Only the sixth tells more than the first: it counts as well.
                Due.is("picture", i == 6 ? run.picture(2, 1) : run.picture(1, 0), i);
                Due.is("count(1)", run.count(1), i);
                could(run, i == 6 ? 3 : 8, 1);
            }
            Due.is("a seventh", run.picture(3, 1), PancakeRun.FULL);
            could(run, 3, 1);
            Due.is("forget()", run.forget(), 6);
            could(run, 32, 8);
        }
    }

    /** "in BEAT b of a TOSS (1 .. 8". */
    private static void beatsOneToEight() {
        PancakeRun run = new PancakeRun();
        for (int b : new int[] {0, 9, -1, 10, Integer.MIN_VALUE, Integer.MAX_VALUE}) {
            Due.is("picture(" + b + ", 0)", run.picture(b, 0), PancakeRun.BAD);
        }
        Due.is("count(1)", run.count(1), 0);
        Due.is("picture(1, 0)", run.picture(1, 0), 1);
        Due.is("picture(8, 0)", run.picture(8, 0), 2);
    }

    /** "q (0 .. 3) QUARTERS". */
    private static void quartersNoneToThree() {
        PancakeRun run = new PancakeRun();
        for (int q : new int[] {-1, 4, -2, 5, Integer.MIN_VALUE, Integer.MAX_VALUE}) {
            Due.is("picture(1, " + q + ")", run.picture(1, q), PancakeRun.BAD);
        }
        Due.is("count(1)", run.count(1), 0);
        for (int q = 0; q <= 3; q++) {
            Due.is("picture(8, " + q + ")", run.picture(8, q), q + 1);
        }
    }

    /** With no PICTURES all 4 times 8 pairs could be, of which 8 are TURNED. */
    private static void noPictures() {
        PancakeRun run = new PancakeRun();
        could(run, 32, 8);
        Due.is("forget()", run.forget(), 0);
        could(run, 32, 8);
        run.picture(8, 3);
        could(run, 0, 0);
        Due.is("forget()", run.forget(), 1);
        could(run, 32, 8);
    }

    /** "(.. it was in the air then, b less than 2 u)": so many u are left, by t = 0. */
    private static void inTheAirThen() {
        int[] due = {4, 3, 3, 2, 2, 1, 1, 0};
        for (int b = 1; b <= 8; b++) {
            PancakeRun run = new PancakeRun();
            int pairs = 0;
            for (int q = 0; q <= 3; q++) {
                run.picture(b, q);
                pairs += run.could(0);
                run.forget();
            }
            // Each pair that was in the air had made one q of the four.
            Due.is("in the air in BEAT " + b, pairs, 8 * due[b - 1]);
        }
    }

    /** "left over by 4": in BEAT 2 it has made t QUARTERS, so 4 is as 0 and 7 as 3; in BEAT 6 3 t. */
    private static void leftOverByFour() {
        // 2 of t for each of u 2 .. 4 by BEAT 2, of u 4 alone by BEAT 6.
        for (int q = 0; q <= 3; q++) {
            PancakeRun run = new PancakeRun();
            run.picture(2, q);
            could(run, 6, new int[] {0, 2, 2, 2}[q]);
            run.forget();
            run.picture(6, q);
            could(run, 2, 0);
            run.forget();
        }
    }

    /** "(t times b by 2, cut)": 7 by 2 are 3, 1 by 2 is none, 49 by 2 are 24, which 4 divides. */
    private static void halvesCut() {
        // BEAT 1: t 0 .. 7 make 0 0 1 1 2 2 3 3, by all four u.
        int[] turned = {1, 3, 1, 3};
        for (int q = 0; q <= 3; q++) {
            PancakeRun run = new PancakeRun();
            run.picture(1, q);
            could(run, 8, turned[q]);
        }
        // BEAT 3: 0 1 3 4 6 7 9 10, so by 4: 0 1 3 0 2 3 1 2, by u 2 .. 4.
        int[] turnedByThree = {1, 2, 1, 2};
        for (int q = 0; q <= 3; q++) {
            PancakeRun run = new PancakeRun();
            run.picture(3, q);
            could(run, 6, turnedByThree[q]);
        }
        // BEAT 7: 0 3 7 10 14 17 21 24, so by 4: 0 3 3 2 2 1 1 0, by u 4 alone.
        for (int q = 0; q <= 3; q++) {
            PancakeRun run = new PancakeRun();
            run.picture(7, q);
            could(run, 2, 0);
        }
    }

    /** "by which all PICTURES are so": not by most of them; the same one again takes none away. */
    private static void allOfThem() {
        PancakeRun run = new PancakeRun();
        run.picture(1, 1);
        could(run, 8, 3);
        run.picture(1, 1);
        could(run, 8, 3);
        // t is 2 or 3; in BEAT 2 it is 3 for sure, and u no longer 1.
        run.picture(2, 3);
        could(run, 3, 1);
        run.picture(5, 3);
        could(run, 2, 0);
        run.picture(7, 2);
        could(run, 1, 0);
        run.picture(2, 2);
        could(run, 0, 0);
        Due.is("forget()", run.forget(), 6);
    }

    /** "TURNED of these": t times u, at its end, not in the PICTURE. */
    private static void turnedOfThese() {
        PancakeRun run = new PancakeRun();
        // In BEAT 4 t 1 3 5 7 has made 2 QUARTERS by u 3 and 4, which end at 3 t and 4 t.
        run.picture(4, 2);
        could(run, 8, 0);
        run.forget();
        run.picture(4, 0);
        could(run, 8, 2);
        run.forget();
        run.picture(4, 1);
        could(run, 0, 0);
    }

    /** By PICTURES that none has made, and by BEAT 8, in which every one is down, none could be. */
    private static void noneCould() {
        for (int q = 0; q <= 3; q++) {
            PancakeRun run = new PancakeRun();
            run.picture(8, q);
            could(run, 0, 0);
        }
        PancakeRun run = new PancakeRun();
        run.picture(1, 0);
        run.picture(1, 1);
        could(run, 0, 0);
    }

    private static void towns(int a, int x, int b, int y, int upper, int lower) {
        PancakeRun run = new PancakeRun();
        String call = "towns(" + a + ", " + x + ", " + b + ", " + y + ", ";
        Due.is(call + "0)", run.towns(a, x, b, y, 0), upper);
        Due.is(call + "1)", run.towns(a, x, b, y, 1), lower);
    }

    /** "TOWNS (a, b 0 .. 999; x, y 0 .. 99)": all of the least and the greatest. */
    private static void towns() {
        towns(0, 0, 0, 0, 0, 1);
        towns(999, 0, 999, 0, 0, 1);
        towns(0, 0, 999, 0, 1, 1);
        towns(999, 0, 0, 0, 0, 1);
        towns(0, 99, 0, 99, 99, 199);
        towns(999, 99, 999, 99, 99, 199);
        towns(0, 99, 999, 99, 1, 1);
        towns(999, 99, 0, 99, 0, 1);
        PancakeRun run = new PancakeRun();
        int[][] beyond = {{-1, 0, 0, 0}, {1000, 0, 0, 0}, {0, -1, 0, 0}, {0, 100, 0, 0},
            {0, 0, -1, 0}, {0, 0, 1000, 0}, {0, 0, 0, -1}, {0, 0, 0, 100}};
        for (int[] t : beyond) {
            Due.is("towns beyond", run.towns(t[0], t[1], t[2], t[3], 0), PancakeRun.BAD);
            Due.is("towns beyond", run.towns(t[0], t[1], t[2], t[3], 1), PancakeRun.BAD);
        }
    }

    /** "if its time is less": as much is not won, one BEAT less is. */
    private static void lessNotAlike() {
        towns(500, 0, 499, 0, 0, 1);
        towns(500, 0, 500, 0, 0, 1);
        towns(500, 0, 501, 0, 1, 1);
        towns(500, 1, 500, 0, 1, 3);
        towns(500, 0, 500, 1, 1, 3);
        towns(500, 1, 500, 1, 1, 3);
        towns(500, 99, 500, 99, 99, 199);
    }

    /** Ways that touch in one BEAT, miss each other by one, lie one in the other. */
    private static void slipsApartAndAlike() {
        // 7 .. 13 and 13 .. 17: all pairs but 13 and 13 are won.
        towns(10, 3, 15, 2, 34, 35);
        towns(10, 3, 16, 2, 1, 1);
        towns(10, 3, 17, 2, 1, 1);
        towns(15, 2, 10, 3, 0, 1);
        // 7 .. 13 and 14 .. 17 the other way round: one pair, 13 before 14, of 7 times 5.
        towns(15, 3, 11, 2, 1, 35);
        towns(15, 3, 10, 2, 0, 1);
        // 10 alone within 5 .. 15, and the other way.
        towns(10, 0, 10, 5, 5, 11);
        towns(10, 5, 10, 0, 5, 11);
        towns(5, 0, 10, 5, 10, 11);
        towns(15, 0, 10, 5, 0, 1);
        towns(4, 0, 10, 5, 1, 1);
    }

    /** "up to x less or more than it is told": also below 0 and above 999. */
    private static void timesFromNone() {
        towns(0, 1, 0, 0, 1, 3);
        towns(0, 0, 0, 1, 1, 3);
        towns(0, 2, 1, 0, 3, 5);
        towns(0, 99, 0, 0, 99, 199);
        towns(999, 0, 999, 99, 99, 199);
        towns(999, 99, 999, 0, 99, 199);
        towns(0, 99, 1, 99, 100, 199);
    }

    /** "upper, lower number, in least terms". */
    private static void townsInLeastTerms() {
        // 1 .. 3 and 2 .. 4: 2 3 4, 3 4, 4: 6 of 9.
        towns(2, 1, 3, 1, 2, 3);
        // 2 .. 4 and 1 .. 3: 2 before 3, alone.
        towns(3, 1, 2, 1, 1, 9);
        towns(2, 1, 4, 1, 8, 9);
        towns(3, 1, 3, 4, 4, 9);
        towns(4, 4, 4, 1, 4, 9);
    }

    /** "(all whole BEATS in between alike likely)": counted pair by pair, by slips none, 1, 98, 99. */
    private static void slipsNoneToNinetyNine() {
        int[] slips = {0, 1, 2, 98, 99};
        int[] apart = {-199, -198, -197, -100, -2, -1, 0, 1, 2, 100, 197, 198, 199};
        PancakeRun run = new PancakeRun();
        int calls = 0;
        for (int x : slips) {
            for (int y : slips) {
                for (int by : apart) {
                    int won = 0;
                    for (int a = 500 - x; a <= 500 + x; a++) {
                        for (int b = 500 + by - y; b <= 500 + by + y; b++) {
                            won += a < b ? 1 : 0;
                        }
                    }
                    run = calls % 500 == 0 ? new PancakeRun() : run;
                    calls += 2;
                    long upper = run.towns(500, x, 500 + by, y, 0);
                    long lower = run.towns(500, x, 500 + by, y, 1);
                    int pairs = (2 * x + 1) * (2 * y + 1);
                    Due.is("the chance by " + x + ", " + y + ", " + by, upper * pairs, won * lower);
                    Due.holds("in least terms", noneDividesBoth(upper, lower));
                }
            }
        }
    }

    private static boolean noneDividesBoth(long upper, long lower) {
        for (long d = 2; d <= Math.max(upper, lower); d++) {
            if (upper % d == 0 && lower % d == 0) {
                return false;
            }
        }
        return true;
    }
}
