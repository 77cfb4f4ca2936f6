/** The edges that part 2 of the document and promises 10 to 14 name of a run, a sentence at a time. */
final class RunEdgesTest {
    private RunEdgesTest() {
    }

    public static void main(String[] args) {
        allAtFirst();
        beatsOneToNine();
        beatsGoByBehindTheEnd();
        runsToTheEndAtMost();
        notRefusedAheadOfTheEnd();
        refusedAtTheEnd();
        inTheAir();
        lotWraps();
        upperBitsFromNoneOn();
        drawLessThanCatch();
        dropOnlyIfNotCaught();
        goodOfAll();
        goodByTheRope();
        homeByTheNeed();
        homeOnlyAtTheEnd();
        homeBits();
        homeFewestBeats();
        homeOfNone();
        tenActsKnown();
        olderActsOfOthers();
        refusedActsAreNone();
        undoneTosses();
        fiveHundredAndTwelveCalls();
        Due.end();
    }

    /** A LOT behind which the next DRAW is as told: the first at or above a number. */
    private static int lotBefore(int draw, int from) {
        int lot = from;
        while (drawBehind(lot) != draw) {
            lot++;
        }
        return lot;
    }

    private static long next(int lot) {
        return (lot * 1103515245L + 12345L) & 0xffffffffL;
    }

    private static int drawBehind(int lot) {
        return (int) (next(lot) / 65536 % 10);
    }

    private static void at(PancakeRun run, int r, int... due) {
        for (int i = 0; i < due.length; i++) {
            Due.is("runner(" + r + ", " + (2 + i) + ")", run.runner(r, 2 + i), due[i]);
        }
    }

    /** "Each RUNNER has a YARD (n: home), BEATS that went by, GOOD ones, at first 0." */
    private static void allAtFirst() {
        PancakeRun run = Due.reading("runner 1 0;runner 2 5;runner 4 9;", 3);
        for (int r = 0; r <= 2; r++) {
            at(run, r, 0, 0, 0, 0);
        }
        Due.is("home(0)", run.home(0), 0);
        Due.is("home(1)", run.home(1), PancakeRun.NONE);
        Due.is("THE LOT", run.lot(1), 1);
    }

    /** "RUNS n (1 .. 9) BEATS": "PACE YARDS each". */
    private static void beatsOneToNine() {
        for (int n = 1; n <= 9; n++) {
            for (int pace = 1; pace <= 4; pace++) {
                PancakeRun run = Due.reading("lane 24;runner " + pace + " 0;", 2);
                int to = Math.min(24, pace * n);
                Due.is("runs(0, " + n + ") by " + pace, run.runs(0, n), to);
                at(run, 0, to, n, 0, 0);
            }
        }
        PancakeRun run = Due.reading("lane 24;runner 1 0;", 2);
        Due.is("runs(0, 0)", run.runs(0, 0), PancakeRun.BAD);
        Due.is("runs(0, 10)", run.runs(0, 10), PancakeRun.BAD);
        at(run, 0, 0, 0, 0, 0);
    }

    /** "(so many go by, also if he is at the end sooner)". */
    private static void beatsGoByBehindTheEnd() {
        PancakeRun run = Due.reading("lane 4;runner 4 9;runner 4 9;runner 1 9;", 4);
        Due.is("one BEAT", run.runs(0, 1), 4);
        at(run, 0, 4, 1, 0, 0);
        Due.is("nine BEATS", run.runs(1, 9), 4);
        at(run, 1, 4, 9, 0, 0);
        Due.is("three BEATS", run.runs(2, 3), 3);
        Due.is("two more", run.runs(2, 2), 4);
        at(run, 2, 4, 5, 0, 0);
    }

    /** "(the end, n, at most)": one YARD ahead of it, right at it, beyond it. */
    private static void runsToTheEndAtMost() {
        for (int n : new int[] {4, 12, 24}) {
            PancakeRun run = Due.reading("lane " + n + ";runner 3 0;runner 1 0;runner 2 0;", 4);
            for (int y = 3; y < n; y += 3) {
                Due.is("runs by 3", run.runs(0, 1), y);
            }
            Due.is("to n by 3", run.runs(0, 1), n);
            for (int y = 1; y <= n; y++) {
                Due.is("runs by 1", run.runs(1, 1), y);
            }
            for (int y = 2; y <= n; y += 2) {
                Due.is("runs by 2", run.runs(2, 1), y);
            }
        }
    }

    /** "STATE: he is at n": at n - 1 he is not. */
    private static void notRefusedAheadOfTheEnd() {
        PancakeRun run = Due.reading("lane 5;runner 4 9;runner 4 9;", 3);
        run.runs(0, 1);
        run.runs(1, 1);
        Due.is("toss at n - 1", run.toss(0, 1, 0, 0, 0), 1);
        Due.is("runs at n - 1", run.runs(1, 1), 5);
        Due.is("toss at n - 1, running", run.toss(0, 1, 1, 0, 1), 1);
        at(run, 0, 5, 5, 0, 0);
    }

    /** "STATE: he is at n": come there by running, or by a TOSS on the run, caught or not. */
    private static void refusedAtTheEnd() {
        PancakeRun run = Due.reading("lane 4;runner 4 9;runner 2 9;runner 2 0;rope 1;", 5);
        run.runs(0, 1);
        Due.is("caught", run.toss(1, 1, 4, 2, 1), 2);
        Due.is("dropped", run.toss(2, 1, 9, 2, 1), 0);
        int lot = run.lot(5);
        run.lot(lot);
        for (int r = 0; r <= 2; r++) {
            Due.is("runs at n", run.runs(r, 1), PancakeRun.STATE);
            Due.is("runs at n", run.runs(r, 9), PancakeRun.STATE);
            Due.is("toss at n", run.toss(r, 1, 0, 0, 0), PancakeRun.STATE);
            Due.is("toss at n", run.toss(r, 4, 9, 7, 1), PancakeRun.STATE);
        }
        Due.is("count(2)", run.count(2), 3);
        Due.is("THE LOT did not go on", run.lot(1), lot);
        at(run, 0, 4, 1, 0, 0);
        at(run, 1, 4, 2, 1, 0);
        at(run, 2, 4, 5, 0, 0);
        // He who is taken back from there may go on.
        run.undo();
        Due.is("runs behind undo()", run.runs(2, 2), 4);
    }

    /** "It is in the air for 2 u BEATS". */
    private static void inTheAir() {
        PancakeRun run = Due.reading("lane 24;runner 1 9;", 2);
        int beats = 0;
        for (int u = 1; u <= 4; u++) {
            for (int t = 0; t <= 1; t++) {
                Due.is("toss " + u, run.toss(0, u, 0, 4 * t, 0), 1);
                beats += 2 * u;
                at(run, 0, 0, beats, 0, 0);
            }
        }
    }

    /** "THE LOT goes on (times 1103515245 and 12345, wrapped". */
    private static void lotWraps() {
        int[] was = {0, 1, -1, Integer.MAX_VALUE, Integer.MIN_VALUE, 2};
        int[] due = {12345, 1103527590, -1103502900, 1043980748, -2147471303, -2087924461};
        PancakeRun run = Due.reading("runner 1 9;", 1);
        for (int i = 0; i < was.length; i++) {
            run.lot(was[i]);
            run.toss(0, 1, 0, 0, 0);
            Due.is("THE LOT behind " + was[i], run.lot(0), due[i]);
        }
    }

    /** "DRAW: its upper 16 bits, as a number from 0 on": also where the uppermost is set. */
    private static void upperBitsFromNoneOn() {
        for (int draw = 0; draw <= 9; draw++) {
            int lot = lotBefore(draw, 0);
            while (next(lot) < 0x80000000L) {
                lot = lotBefore(draw, lot + 1);
            }
            drawIs(lot, draw);
            lot = lotBefore(draw, Integer.MIN_VALUE);
            while (next(lot) >= 0x80000000L) {
                lot = lotBefore(draw, lot + 1);
            }
            drawIs(lot, draw);
        }
    }

    /** Told by what is caught: a TOSS of each CATCH is, if the DRAW is less. */
    private static void drawIs(int lot, int draw) {
        for (int inTen = 0; inTen <= 10; inTen++) {
            // 3 and more in 10 on the spot by PAN; 1 and 2 not FLAT; 0 comes DOWN beside.
            int pan = inTen >= 3 ? inTen - 3 : inTen / 2;
            int forward = inTen == 0 ? 1 : 0;
            int turn = inTen == 1 || inTen == 2 ? 1 : 0;
            PancakeRun run = Due.reading("runner 1 " + pan + ";", 1);
            Due.is("CATCH", run.comes(0, 0, 1, forward, turn, 0, 4), inTen);
            run.lot(lot);
            String asked = "DRAW " + draw + " and CATCH " + inTen;
            Due.is(asked, run.toss(0, 1, forward, turn, 0), draw < inTen ? 1 : 0);
        }
    }

    /** "caught, if DRAW is less than CATCH": each DRAW with each CATCH; 0 never, 10 always. */
    private static void drawLessThanCatch() {
        for (int draw = 0; draw <= 9; draw++) {
            drawIs(lotBefore(draw, 0), draw);
            drawIs(lotBefore(draw, -5000), draw);
        }
    }

    /** "else DROP BEATS more go by": DROP 1 and 9; none if it is caught. */
    private static void dropOnlyIfNotCaught() {
        for (int drop = 1; drop <= 9; drop++) {
            PancakeRun run = Due.reading("lane 24;runner 1 4;rope 1;drop " + drop + ";", 4);
            run.lot(lotBefore(6, 0));
            Due.is("caught", run.toss(0, 1, 0, 2, 0), 2);
            at(run, 0, 0, 2, 1, 0);
            run.lot(lotBefore(7, 0));
            Due.is("dropped", run.toss(0, 1, 0, 2, 0), 0);
            at(run, 0, 0, 4 + drop, 1, 0);
            run.lot(lotBefore(9, 0));
            Due.is("dropped on the run", run.toss(0, 4, 8, 2, 1), 0);
            at(run, 0, 8, 12 + 2 * drop, 1, 0);
        }
    }

    /** "GOOD: caught, TURNED, u no less than ROPE": of any two without the third it is not. */
    private static void goodOfAll() {
        PancakeRun run = Due.reading("runner 1 4;rope 2;", 2);
        int caught = lotBefore(0, 0);
        int dropped = lotBefore(9, 0);
        int[][] tosses = {
            {caught, 2, 1, 2}, {caught, 2, 2, 1}, {caught, 1, 2, 1}, {dropped, 2, 1, 0},
            {dropped, 1, 0, 0}, {caught, 1, 0, 1}, {caught, 4, 1, 1}, {caught, 3, 6, 2},
        };
        int good = 0;
        for (int[] toss : tosses) {
            run.lot(toss[0]);
            Due.is("toss " + toss[1] + ", " + toss[2], run.toss(0, toss[1], 0, toss[2], 0), toss[3]);
            good += toss[3] == 2 ? 1 : 0;
            Due.is("GOOD ones", run.runner(0, 4), good);
        }
    }

    /** "u no less than ROPE": one below, the same, one above. */
    private static void goodByTheRope() {
        int[][] due = {{2, 2, 2}, {1, 2, 2}, {1, 1, 2}};
        int[] turn = {2, 1, 2};
        for (int rope = 1; rope <= 3; rope++) {
            PancakeRun run = Due.reading("runner 1 9;rope " + rope + ";", 2);
            for (int u = 1; u <= 3; u++) {
                String asked = "ROPE " + rope + ", UP " + u;
                Due.is(asked, run.toss(0, u, 0, turn[u - 1], 0), due[rope - 1][u - 1]);
            }
        }
    }

    /** "HOME: at n with NEED GOOD ones": one less than NEED, as many, one more. */
    private static void homeByTheNeed() {
        for (int need = 1; need <= 4; need++) {
            for (int good = need - 1; good <= need + 1; good++) {
                PancakeRun run = Due.reading("lane 4;runner 4 9;rope 1;need " + need + ";", 4);
                for (int i = 0; i < good; i++) {
                    Due.is("toss", run.toss(0, 1, 0, 2, 0), 2);
                }
                run.runs(0, 1);
                boolean home = good >= need;
                at(run, 0, 4, 2 * good + 1, good, home ? 1 : 0);
                Due.is("home(0)", run.home(0), home ? 1 : 0);
                Due.is("home(1)", run.home(1), home ? 0 : PancakeRun.NONE);
                Due.is("keep(0)", run.keep(0), home ? 1 : 0);
                Due.is("back(0)", run.back(0), home ? 1 : 0);
            }
        }
    }

    /** "HOME: at n": at n - 1 with all of them he is not. */
    private static void homeOnlyAtTheEnd() {
        PancakeRun run = Due.reading("lane 5;runner 4 9;rope 1;need 1;", 4);
        run.toss(0, 1, 0, 2, 0);
        run.runs(0, 1);
        at(run, 0, 4, 3, 1, 0);
        Due.is("home(0)", run.home(0), 0);
        Due.is("home(1)", run.home(1), PancakeRun.NONE);
        Due.is("the last one on the run", run.toss(0, 1, 1, 2, 1), 2);
        at(run, 0, 5, 5, 2, 1);
        Due.is("home(0)", run.home(0), 1);
    }

    private static PancakeRun three() {
        return Due.reading("lane 4;runner 2 9;runner 2 9;runner 2 9;rope 1;need 1;", 6);
    }

    /** "Which RUNNERS are HOME, as bits": each row of them. */
    private static void homeBits() {
        for (int bits = 0; bits <= 7; bits++) {
            PancakeRun run = three();
            for (int r = 0; r <= 2; r++) {
                if ((bits >> r & 1) == 1) {
                    run.toss(r, 1, 4, 2, 1);
                } else {
                    run.runs(r, 2);
                }
            }
            Due.is("home(0)", run.home(0), bits);
            Due.is("keep(1)", run.keep(1), Integer.bitCount(bits));
        }
    }

    /** "who was so in the fewest BEATS, of several the least number". */
    private static void homeFewestBeats() {
        // How many BEATS the last run of each takes, and who was first.
        int[][] rows = {{1, 1, 1, 0}, {2, 1, 1, 1}, {2, 2, 1, 2}, {1, 2, 1, 0}, {1, 1, 2, 0},
            {3, 2, 1, 2}, {2, 1, 2, 1}, {1, 2, 3, 0}, {9, 8, 9, 1}};
        for (int[] row : rows) {
            PancakeRun run = three();
            for (int r = 2; r >= 0; r--) {
                run.toss(r, 1, 0, 2, 0);
                run.runs(r, 1);
                run.runs(r, row[r]);
            }
            Due.is("all are HOME", run.home(0), 7);
            Due.is("home(1)", run.home(1), row[3]);
        }
    }

    /** "(1; NONE)": of none, and of those at n who lack GOOD ones in fewer BEATS. */
    private static void homeOfNone() {
        Due.is("no RUNNERS", new PancakeRun().home(1), PancakeRun.NONE);
        Due.is("no RUNNERS", new PancakeRun().home(0), 0);
        PancakeRun run = three();
        Due.is("none HOME", run.home(1), PancakeRun.NONE);
        run.runs(0, 2);
        Due.is("at n without", run.home(1), PancakeRun.NONE);
        run.toss(2, 1, 0, 2, 0);
        run.runs(2, 9);
        Due.is("the only one", run.home(1), 2);
    }

    /** "(10 are known, older ones are lost": 9, 10, 11, 12, 25 acts. */
    private static void tenActsKnown() {
        for (int acts : new int[] {0, 1, 9, 10, 11, 12, 25}) {
            PancakeRun run = Due.reading("lane 24;runner 1 9;rope 1;", 3);
            for (int i = 1; i <= acts; i++) {
                Due.is("toss", run.toss(0, 1, 0, 2, 0), 2);
                Due.is("count(2)", run.count(2), Math.min(10, i));
            }
            int known = Math.min(10, acts);
            for (int left = known - 1; left >= 0; left--) {
                Due.is("undo()", run.undo(), left);
                Due.is("count(2)", run.count(2), left);
                int done = acts - known + left;
                at(run, 0, 0, 2 * done, done, 0);
            }
            Due.is("undo() of none", run.undo(), PancakeRun.STATE);
            at(run, 0, 0, 2 * (acts - known), acts - known, 0);
        }
    }

    /** "the last act of any": whose it was stays known when older ones, of others, are lost. */
    private static void olderActsOfOthers() {
        int[] whose = {0, 1, 2, 0, 0, 1, 2, 2, 1, 0, 2, 1, 1, 0, 2, 0, 1};
        PancakeRun run = Due.reading("lane 24;runner 1 9;runner 1 9;runner 1 9;", 4);
        int[] done = new int[3];
        for (int r : whose) {
            done[r]++;
            Due.is("runs", run.runs(r, 1), done[r]);
        }
        for (int i = whose.length - 1; i >= whose.length - 10; i--) {
            Due.is("undo()", run.undo(), i - (whose.length - 10));
            done[whose[i]]--;
            for (int r = 0; r <= 2; r++) {
                at(run, r, done[r], done[r], 0, 0);
            }
        }
        Due.is("undo() of none", run.undo(), PancakeRun.STATE);
    }

    /** What is refused is no act, and loses none. */
    private static void refusedActsAreNone() {
        PancakeRun run = Due.reading("lane 4;runner 1 9;", 2);
        for (int i = 1; i <= 4; i++) {
            run.runs(0, 1);
            run.runs(0, 0);
            run.runs(1, 1);
            run.toss(0, 5, 0, 0, 0);
        }
        for (int i = 0; i < 10; i++) {
            Due.is("runs at n", run.runs(0, 1), PancakeRun.STATE);
            Due.is("toss at n", run.toss(0, 1, 0, 0, 0), PancakeRun.STATE);
        }
        Due.is("count(2)", run.count(2), 4);
        Due.is("undo()", run.undo(), 3);
        at(run, 0, 3, 3, 0, 0);
    }

    /** "THE LOT stays": a TOSS that is taken back was drawn for all that. */
    private static void undoneTosses() {
        PancakeRun run = Due.reading("lane 24;runner 1 4;rope 1;", 3);
        run.lot(0);
        run.toss(0, 1, 0, 2, 0);
        Due.is("undo()", run.undo(), 0);
        at(run, 0, 0, 0, 0, 0);
        Due.is("THE LOT", run.lot(0), 12345);
    }

    /** "An object is used for at most 512 calls": the last of them is as good as the first. */
    private static void fiveHundredAndTwelveCalls() {
        PancakeRun run = new PancakeRun();
        run.type(0x72756e6e65722031L, 8);
        run.type(0x20303b64726f7020L, 8);
        run.type(0x393bL, 2);
        Due.is("lane()", run.lane(), 2);
        for (int calls = 5; calls < 510; calls++) {
            run.toss(0, 4, 9, 7, 0);
        }
        Due.is("call 510", run.runner(0, 3), 505 * 17);
        Due.is("call 511", run.undo(), 9);
        Due.is("call 512", run.runner(0, 3), 504 * 17);
        run = new PancakeRun();
        for (int calls = 1; calls < 512; calls++) {
            run.rate(5, 4, 7);
        }
        Due.is("call 512", run.trace(), 511 * 100001L);
    }
}
