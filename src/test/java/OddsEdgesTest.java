/** The edges that part 3 of the document and promises 9, 15 and 16 name, a sentence at a time. */
final class OddsEdgesTest {
    private OddsEdgesTest() {
    }

    public static void main(String[] args) {
        bestAtEachEndOfTheLane();
        bestFromTheRope();
        bestNeverUpFour();
        bestLeastUp();
        bestLeastOfAllAtNone();
        bestFarthestForward();
        beatsNoneToTwentyFour();
        beatsThatAreThere();
        beatsThatWentBy();
        beatsThatWentByOfOneWhoIsHome();
        noneAtTheEnd();
        runsBeatByBeat();
        inTheAirTillTheBeat();
        pickedUpTillTheBeat();
        leastTerms();
        eachNeed();
        moreThanNeed();
        longestFractions();
        standingOrRunning();
        runsOnToWhereItIsBest();
        bestThatIsNoneCaught();
        enoughAtLeast();
        enoughForNoneAndTen();
        enoughByTheLastBeat();
        Due.end();
    }

    private static void best(PancakeRun run, int r, int y, int runs, int inTen, int number) {
        String asked = "best(" + r + ", " + y + ", " + runs + ", ";
        Due.is(asked + "0)", run.best(r, y, runs, 0), inTen);
        Due.is(asked + "1)", run.best(r, y, runs, 1), number);
    }

    private static void odds(PancakeRun run, int r, int b, long upper, long lower) {
        Due.is("odds(" + r + ", " + b + ", 0)", run.odds(r, b, 0), upper);
        Due.is("odds(" + r + ", " + b + ", 1)", run.odds(r, b, 1), lower);
    }

    private static void odds(PancakeRun run, int least, int greatest, long[] due) {
        for (int b = least; b <= greatest; b++) {
            odds(run, 0, b, due[0], due[1]);
        }
    }

    private static final long[] NONE = {0, 1};
    private static final long[] SURE = {1, 1};

    /** "BEST at a YARD (0 .. n - 1)": wherever the RUNNER is. */
    private static void bestAtEachEndOfTheLane() {
        for (int n : new int[] {4, 12, 24}) {
            PancakeRun run = Due.reading("lane " + n + ";runner 4 7;wet " + (n - 1) + ";", 3);
            for (int i = 0; i <= 1; i++) {
                best(run, 0, 0, 0, 10, 201);
                best(run, 0, n - 1, 0, 8, 201);
                best(run, 0, n - 1, 1, 10, 211);
                Due.is("at -1", run.best(0, -1, 0, 0), PancakeRun.BAD);
                Due.is("at n", run.best(0, n, 0, 0), PancakeRun.BAD);
                Due.is("at 24", run.best(0, 24, 1, 1), PancakeRun.BAD);
                run.runs(0, 9);
                Due.is("the RUNNER is at n", run.runner(0, 2), n);
            }
        }
    }

    /** "of all TOSSES with u from ROPE": those below are none, though more would be caught. */
    private static void bestFromTheRope() {
        // Running by 4, UP 1 comes as far as one does; UP 2 and 3 do not come far enough.
        int[][] due = {{10, 182, 10, 132}, {0, 201, 10, 261}, {0, 302, 10, 392}};
        for (int rope = 1; rope <= 3; rope++) {
            PancakeRun run = Due.reading("lane 24;wind 1 3;runner 4 7;rope " + rope + ";", 4);
            best(run, 0, 0, 1, due[rope - 1][0], due[rope - 1][1]);
            best(run, 0, 1, 0, due[rope - 1][2], due[rope - 1][3]);
        }
    }

    /** "that is TURNED": UP 4 never is, though only by it one comes to the end. */
    private static void bestNeverUpFour() {
        PancakeRun run = Due.reading("lane 8;wet 6;runner 1 5;rope 3;", 4);
        Due.is("by UP 4", run.comes(0, 0, 4, 8, 0, 1, 4), 8);
        best(run, 0, 0, 1, 6, 362);
    }

    /** "of several the least u": with other f and t; more is better though u is more. */
    private static void bestLeastUp() {
        best(Due.reading("wind 0 1;runner 1 9;rope 1;", 3), 0, 0, 0, 10, 112);
        best(Due.reading("wind 0 2;runner 1 0;rope 1;", 3), 0, 0, 0, 3, 122);
        best(Due.reading("runner 1 9;rope 1;", 2), 0, 0, 1, 10, 122);
        // From 0 by 1: YARD 2 by UP 1, 4 by UP 2, 6 by UP 3.
        best(Due.reading("wet 2;runner 1 6;rope 1;", 3), 0, 0, 1, 9, 241);
        best(Due.reading("wet 2;wet 4;runner 1 6;rope 1;", 4), 0, 0, 1, 9, 362);
        best(Due.reading("wet 2;wet 4;wet 6;runner 1 6;rope 1;", 5), 0, 0, 1, 7, 122);
        best(Due.reading("wet 2;wet 4;runner 1 9;rope 1;", 4), 0, 0, 1, 10, 122);
    }

    /** "then f, then t": where none can be caught all are alike, and the least is BEST. */
    private static void bestLeastOfAllAtNone() {
        int[] due = {102, 201, 302};
        for (int rope = 1; rope <= 3; rope++) {
            PancakeRun run = Due.reading("lane 24;wind 0 3;runner 4 0;rope " + rope + ";", 4);
            best(run, 0, 0, 1, 0, due[rope - 1]);
        }
    }

    /** "f (0 .. 9)": 9 is the farthest, so one YARD is lacking, or more. */
    private static void bestFarthestForward() {
        // By 4 with UP 1: 8 YARDS and the WIND.
        best(Due.reading("lane 24;wind 0 1;runner 4 5;rope 1;", 4), 0, 0, 1, 8, 192);
        best(Due.reading("lane 24;wind 0 2;runner 4 5;rope 1;", 4), 0, 0, 1, 5, 192);
        best(Due.reading("lane 24;wind 0 3;runner 4 5;rope 1;", 4), 0, 0, 1, 2, 192);
        best(Due.reading("lane 24;wind 0 3;runner 4 3;rope 1;", 4), 0, 0, 1, 0, 102);
        best(Due.reading("wind 0 3;runner 1 5;rope 3;", 3), 0, 0, 0, 8, 392);
    }

    /** "by BEAT b (0 .. 24)". */
    private static void beatsNoneToTwentyFour() {
        PancakeRun run = Due.reading("lane 4;runner 4 9;need 1;rope 1;", 4);
        Due.is("odds(0, -1, 0)", run.odds(0, -1, 0), PancakeRun.BAD);
        odds(run, 0, 1, NONE);
        odds(run, 2, 24, SURE);
        Due.is("odds(0, 25, 0)", run.odds(0, 25, 0), PancakeRun.BAD);
        Due.is("odds(0, 25, 1)", run.odds(0, 25, 1), PancakeRun.BAD);
    }

    /** "till BEATS are more than b": who needs all 24 has them, and none of the 23. */
    private static void beatsThatAreThere() {
        for (int n = 20; n <= 24; n++) {
            PancakeRun run = Due.reading("lane " + n + ";runner 1 9;need 1;rope 1;", 4);
            odds(run, 0, n - 1, NONE);
            odds(run, n, 24, SURE);
        }
        // One BEAT lost, and 24 are too few.
        PancakeRun run = Due.reading("lane 24;runner 1 9;runner 1 9;need 1;rope 1;", 5);
        Due.is("not TURNED", run.toss(0, 1, 0, 0, 0), 1);
        odds(run, 0, 24, NONE);
        Due.is("on the run, not TURNED", run.toss(1, 1, 2, 0, 1), 1);
        odds(run, 1, 23, 0, 1);
        odds(run, 1, 24, 1, 1);
    }

    /** "(those that went by count; 0, if they are above b": on the way, at b and one above it. */
    private static void beatsThatWentBy() {
        PancakeRun run = Due.reading("lane 12;runner 4 9;need 1;rope 1;", 4);
        run.toss(0, 1, 0, 2, 0);
        run.runs(0, 2);
        // 4 BEATS went by, one is needed.
        odds(run, 0, 4, NONE);
        odds(run, 5, 24, SURE);
        run.undo();
        run.toss(0, 4, 0, 0, 0);
        run.toss(0, 4, 0, 0, 0);
        run.toss(0, 1, 0, 0, 0);
        run.toss(0, 1, 0, 0, 0);
        Due.is("BEATS", run.runner(0, 3), 22);
        odds(run, 0, 24, NONE);
        run.undo();
        odds(run, 0, 22, NONE);
        odds(run, 23, 24, SURE);
        run.undo();
        odds(run, 0, 20, NONE);
        odds(run, 21, 24, SURE);
    }

    /** "also for one who is HOME": in just b BEATS, in one more, in 24 and 25. */
    private static void beatsThatWentByOfOneWhoIsHome() {
        PancakeRun run = Due.reading("lane 4;runner 4 9;runner 4 9;need 1;rope 1;", 5);
        run.toss(0, 1, 4, 2, 1);
        Due.is("HOME", run.runner(0, 5), 1);
        odds(run, 0, 1, NONE);
        odds(run, 2, 24, SURE);
        Due.is("enough(0, 1)", run.enough(0, 1), 2);
        Due.is("enough(0, 10)", run.enough(0, 10), 2);
        for (int last = 4; last <= 5; last++) {
            run = Due.reading("lane 22;runner 1 9;need 1;rope 1;", 4);
            run.toss(0, 1, 0, 2, 0);
            run.runs(0, 9);
            run.runs(0, 9);
            run.runs(0, last);
            Due.is("HOME", run.runner(0, 5), 1);
            Due.is("BEATS", run.runner(0, 3), 20 + last);
            odds(run, 0, 23, NONE);
            odds(run, 24, 24, last == 4 ? SURE : NONE);
            Due.is("enough(0, 10)", run.enough(0, 10), last == 4 ? 24 : PancakeRun.NONE);
            Due.is("enough(0, 0)", run.enough(0, 0), 0);
        }
    }

    /** "(at n none)": who is there without NEED GOOD ones will never be HOME. */
    private static void noneAtTheEnd() {
        PancakeRun run = Due.reading("lane 4;runner 4 9;need 2;rope 1;", 4);
        run.toss(0, 1, 0, 2, 0);
        odds(run, 4, 24, SURE);
        run.runs(0, 1);
        odds(run, 0, 24, NONE);
        for (int c = 1; c <= 10; c++) {
            Due.is("enough(0, " + c + ")", run.enough(0, c), PancakeRun.NONE);
        }
    }

    /** "each time he RUNS a BEAT": by PACE, "n at most". */
    private static void runsBeatByBeat() {
        // With a GOOD one there in 2 BEATS, the rest is run: so many BEATS from 0.
        int[][] rows = {{4, 19, 5}, {4, 20, 5}, {4, 21, 6}, {4, 24, 6}, {3, 24, 8}, {3, 22, 8}, {3, 21, 7},
            {2, 23, 12}, {2, 24, 12}, {1, 24, 24}, {4, 4, 1}};
        for (int[] row : rows) {
            PancakeRun run = Due.reading("lane " + row[1] + ";runner " + row[0] + " 9;need 1;rope 1;", 4);
            run.toss(0, 1, 0, 2, 0);
            int due = 2 + row[2];
            odds(run, 0, Math.min(24, due - 1), NONE);
            odds(run, due, 24, SURE);
        }
    }

    /** "or TOSSES as BEST": 2 u BEATS in the air; it counts if they are not more than b. */
    private static void inTheAirTillTheBeat() {
        for (int rope = 1; rope <= 3; rope++) {
            PancakeRun run = Due.reading("lane 4;runner 4 3;need 1;drop 9;rope " + rope + ";", 5);
            odds(run, 0, 2 * rope - 1, NONE);
            odds(run, 2 * rope, 4 * rope + 8, new long[] {3, 5});
            odds(run, 4 * rope + 9, 4 * rope + 9, new long[] {21, 25});
        }
    }

    /** "else DROP BEATS more go by": the next TOSS is behind them. */
    private static void pickedUpTillTheBeat() {
        for (int drop = 1; drop <= 9; drop++) {
            PancakeRun run = Due.reading("lane 4;runner 4 3;need 1;rope 1;drop " + drop + ";", 5);
            odds(run, 0, 1, NONE);
            odds(run, 2, 3 + drop, new long[] {3, 5});
            odds(run, 4 + drop, 5 + 2 * drop, new long[] {21, 25});
            odds(run, 6 + 2 * drop, 6 + 2 * drop, new long[] {117, 125});
        }
    }

    /** "upper, lower number, in least terms": 0 is 0 of 1, 1 is 1 of 1. */
    private static void leastTerms() {
        long[][] due = {{3, 10}, {2, 5}, {1, 2}, {3, 5}, {7, 10}, {4, 5}, {9, 10}, {1, 1}, {1, 1}, {1, 1}};
        for (int pan = 0; pan <= 9; pan++) {
            PancakeRun run = Due.reading("lane 4;runner 4 " + pan + ";need 1;rope 1;drop 9;", 5);
            odds(run, 0, 1, NONE);
            odds(run, 2, 12, due[pan]);
        }
    }

    /** NEED 1 .. 4: so many GOOD ones one behind another. */
    private static void eachNeed() {
        long[][] due = {{3, 5}, {9, 25}, {27, 125}, {81, 625}};
        for (int need = 1; need <= 4; need++) {
            PancakeRun run = Due.reading("lane 4;runner 4 3;rope 1;drop 9;need " + need + ";", 5);
            odds(run, 0, 2 * need - 1, NONE);
            odds(run, 2 * need, 2 * need + 10, due[need - 1]);
        }
    }

    /** "with NEED GOOD ones": one who has as many, or more, has but to run. */
    private static void moreThanNeed() {
        PancakeRun run = Due.reading("lane 8;runner 4 9;need 4;rope 1;", 4);
        for (int good = 1; good <= 8; good++) {
            run.toss(0, 1, 0, 2, 0);
            int due = 2 * good + Math.max(2, 2 * (4 - good));
            odds(run, 0, due - 1, NONE);
            odds(run, due, 24, SURE);
        }
    }

    /** Fractions of many TOSSES, none of them cut. */
    private static void longestFractions() {
        PancakeRun run = Due.reading("lane 4;runner 4 0;need 4;rope 1;drop 1;", 5);
        long[][] due = {{0, 1}, {81, 10000}, {1539, 50000}, {7047, 100000}, {31509, 250000},
            {3882087, 20000000}, {135170451, 500000000}};
        int[] from = {0, 8, 11, 14, 17, 20, 23, 25};
        for (int i = 0; i < due.length; i++) {
            odds(run, from[i], from[i + 1] - 1, due[i]);
        }
        run = Due.reading("lane 4;runner 1 4;need 4;rope 1;drop 1;", 5);
        odds(run, 0, 24, 487352579, 500000000);
    }

    /** "TOSSES as BEST standing, or running": each where the other is worse. */
    private static void standingOrRunning() {
        // On the run by 4 UP 3 comes far too short but near the end; standing it is caught for sure.
        PancakeRun run = Due.reading("lane 24;runner 4 7;need 2;rope 3;", 4);
        best(run, 0, 0, 1, 0, 302);
        odds(run, 0, 14, NONE);
        // To YARD 12 in 3 BEATS, standing in 6, on the run in 6 more: 9 YARDS far, where 12 are due.
        odds(run, 15, 15, new long[] {1, 10});
        // From YARD 16, there in 4, it need come but 8 far.
        odds(run, 16, 24, SURE);
        // Standing in the wet 1 in 10, on the run to the end 3 in 10, in the same 2 BEATS.
        run = Due.reading("lane 8;wet 0;wet 4;runner 4 0;need 1;rope 1;drop 9;", 7);
        odds(run, 2, 12, new long[] {3, 10});
        // For two of them the first is tossed standing, 1 in 10, as there is no room to run twice.
        run = Due.reading("lane 8;wet 0;wet 4;runner 4 0;need 2;rope 1;drop 9;", 7);
        odds(run, 0, 3, NONE);
        odds(run, 4, 13, new long[] {3, 100});
    }

    /** "that does what is best": he RUNS on to where a TOSS is caught best, and TOSSES on the run. */
    private static void runsOnToWhereItIsBest() {
        PancakeRun run = Due.reading("lane 10;wet 0;wet 1;wet 2;wet 3;wet 4;wet 5;wet 7;wet 9;"
            + "runner 2 0;need 1;rope 1;drop 9;", 13);
        odds(run, 0, 4, NONE);
        odds(run, 5, 13, new long[] {3, 10});
        odds(run, 14, 24, new long[] {51, 100});
    }

    /** Of a BEST that none catches no one has more: he RUNS on till one can be caught. */
    private static void bestThatIsNoneCaught() {
        PancakeRun run = Due.reading("lane 24;wind 0 3;runner 4 0;need 1;rope 3;drop 9;", 6);
        best(run, 0, 0, 1, 0, 302);
        best(run, 0, 12, 1, 0, 302);
        best(run, 0, 16, 1, 3, 382);
        // From YARD 16, there in 4 BEATS, UP 3 on the run: home 6 BEATS later.
        odds(run, 0, 9, NONE);
        odds(run, 10, 24, new long[] {3, 10});
    }

    /** "the least b by which ODDS are c in 10 at least": just as many are enough. */
    private static void enoughAtLeast() {
        for (int pan = 0; pan <= 9; pan++) {
            int p = Math.min(10, pan + 3);
            int q = 10 - p;
            // By BEAT 2, 13 and 24, in 1000: one, two, three TOSSES.
            int[] inThousand = {100 * p, 1000 - 10 * q * q, 1000 - q * q * q};
            PancakeRun run = Due.reading("lane 4;runner 4 " + pan + ";need 1;rope 1;drop 9;", 5);
            for (int c = 1; c <= 10; c++) {
                int due = PancakeRun.NONE;
                for (int i = 2; i >= 0; i--) {
                    due = inThousand[i] >= 100 * c ? 2 + 11 * i : due;
                }
                Due.is("PAN " + pan + ": enough(0, " + c + ")", run.enough(0, c), due);
            }
        }
    }

    /** "for c in 10 (0 .. 10)". */
    private static void enoughForNoneAndTen() {
        PancakeRun run = Due.reading("lane 4;runner 4 6;runner 4 7;need 1;rope 1;", 5);
        Due.is("enough(0, -1)", run.enough(0, -1), PancakeRun.BAD);
        Due.is("enough(0, 0)", run.enough(0, 0), 0);
        Due.is("enough(0, 10) of 9 in 10", run.enough(0, 10), PancakeRun.NONE);
        Due.is("enough(1, 10) of 10 in 10", run.enough(1, 10), 2);
        Due.is("enough(0, 11)", run.enough(0, 11), PancakeRun.BAD);
        Due.is("enough(2, 0)", run.enough(2, 0), PancakeRun.BAD);
        // 0 in 10 are always there, also for one who was too long on his way.
        for (int i = 0; i < 4; i++) {
            run.toss(0, 4, 0, 0, 0);
        }
        Due.is("enough(0, 0) behind 24 BEATS", run.enough(0, 0), 0);
        Due.is("enough(0, 1) behind 24 BEATS", run.enough(0, 1), PancakeRun.NONE);
    }

    /** "NONE": if 24 BEATS are not enough; just 24 are. */
    private static void enoughByTheLastBeat() {
        PancakeRun run = Due.reading("lane 24;runner 1 9;need 1;rope 1;", 4);
        Due.is("24 are enough", run.enough(0, 10), 24);
        run = Due.reading("lane 23;runner 1 9;runner 1 9;need 1;rope 1;", 5);
        Due.is("23 are enough", run.enough(0, 10), 23);
        run.toss(0, 1, 0, 0, 0);
        Due.is("25 would be needed", run.enough(0, 10), PancakeRun.NONE);
        Due.is("25 would be needed", run.enough(0, 1), PancakeRun.NONE);
        Due.is("of another RUNNER", run.enough(1, 1), 23);
    }
}
