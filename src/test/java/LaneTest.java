/** Promises 1 to 7: a new object, THE TEXT, the LANE and its RUNNERS. */
final class LaneTest {
    private LaneTest() {
    }

    public static void main(String[] args) {
        constants();
        newObject();
        typed();
        typedUpToTheBrim();
        cleared();
        laneRead();
        toldAgain();
        blanks();
        readAnew();
        readAnewAgain();
        faultsOfTokens();
        faultsOfOrder();
        faultsOfNumbers();
        faultsOfTheEnd();
        faultChangesNothing();
        wrongNumbers();
        Due.end();
    }

    private static void constants() {
        Due.is("BAD", PancakeRun.BAD, -1);
        Due.is("STATE", PancakeRun.STATE, -2);
        Due.is("FULL", PancakeRun.FULL, -3);
        Due.is("NONE", PancakeRun.NONE, -9);
        Due.is("NO", PancakeRun.NO, -1000000);
    }

    private static void newObject() {
        PancakeRun run = new PancakeRun();
        Due.is("new told(0)", run.told(0), 12);
        Due.is("new told(1)", run.told(1), 2);
        Due.is("new told(2)", run.told(2), 3);
        Due.is("new told(3)", run.told(3), 3);
        for (int y = 0; y < 12; y++) {
            Due.is("new yard(" + y + ", 0)", run.yard(y, 0), 0);
            Due.is("new yard(" + y + ", 1)", run.yard(y, 1), 0);
        }
        Due.is("new yard(12, 0)", run.yard(12, 0), PancakeRun.BAD);
        Due.is("new runner(0, 0)", run.runner(0, 0), PancakeRun.BAD);
        for (int what = 0; what < 4; what++) {
            Due.is("new count(" + what + ")", run.count(what), 0);
        }
        Due.is("new trace()", run.trace(), 0);
        Due.is("new undo()", run.undo(), PancakeRun.STATE);
        Due.is("new back(0)", run.back(0), PancakeRun.STATE);
        Due.is("new back(1)", run.back(1), PancakeRun.STATE);
        Due.is("new lot(7)", run.lot(7), 1);
        Due.is("new home(1)", run.home(1), PancakeRun.NONE);
    }

    private static void typed() {
        PancakeRun run = new PancakeRun();
        Due.is("type(.., 0)", run.type(0x3b, 0), PancakeRun.BAD);
        Due.is("type(.., 9)", run.type(0x3b, 9), PancakeRun.BAD);
        Due.is("type(.., -1)", run.type(0x3b, -1), PancakeRun.BAD);
        Due.is("type(.., least)", run.type(0x3b, Integer.MIN_VALUE), PancakeRun.BAD);
        Due.is("type(.., most)", run.type(0x3b, Integer.MAX_VALUE), PancakeRun.BAD);
        Due.is("count(3)", run.count(3), 0);
        // "rope 3;" with bytes above the lowest seven that are not to come.
        Due.is("type(7)", run.type(0xff726f706520333bL, 7), 7);
        Due.is("lane()", run.lane(), 1);
        Due.is("told(1)", run.told(1), 3);
        Due.is("type(n)", run.type('n', 1), 1);
        Due.is("type(eed 4;)", run.type(0x656564L << 24 | 0x20343bL, 6), 7);
        Due.is("lane()", run.lane(), 1);
        Due.is("told(2)", run.told(2), 4);
        Due.is("told(1)", run.told(1), 2);
        // A byte above 127 is a byte that begins no TOKEN, not a letter or blank.
        Due.is("type(-1, 8)", run.type(-1L, 8), 8);
        Due.is("lane()", run.lane(), -10);
    }

    private static void typedUpToTheBrim() {
        PancakeRun run = new PancakeRun();
        for (int i = 1; i <= 37; i++) {
            Due.is("type blanks", run.type(0x2020202020202020L, 8), 8 * i);
        }
        Due.is("type(.., 8) at 296", run.type(0, 8), PancakeRun.FULL);
        Due.is("type(.., 5) at 296", run.type(0, 5), PancakeRun.FULL);
        Due.is("type(.., 9) at 296", run.type(0, 9), PancakeRun.BAD);
        Due.is("count(3)", run.count(3), 296);
        Due.is("type(.., 4) at 296", run.type(0x20202020L, 4), 300);
        Due.is("type(.., 1) at 300", run.type(0x20, 1), PancakeRun.FULL);
        Due.is("type(.., 0) at 300", run.type(0x20, 0), PancakeRun.BAD);
        Due.is("lane() of blanks", run.lane(), 0);
        Due.is("count(3)", run.count(3), 0);
        StringBuilder wets = new StringBuilder();
        for (int i = 0; i < 60; i++) {
            wets.append("wet").append(i % 10).append(';');
        }
        run = Due.reading(wets.toString(), 60);
        Due.is("yard(9, 1)", run.yard(9, 1), 1);
        Due.is("yard(10, 1)", run.yard(10, 1), 0);
        Due.fault(wets.substring(0, 299), 299);
    }

    private static void cleared() {
        PancakeRun run = new PancakeRun();
        Due.is("clear()", run.clear(), 0);
        Due.type(run, "lane 4;runner 1 1;");
        Due.is("clear()", run.clear(), 18);
        Due.is("clear()", run.clear(), 0);
        Due.is("count(3)", run.count(3), 0);
        Due.is("told(0)", run.told(0), 12);
        Due.type(run, "drop 9;");
        Due.is("lane()", run.lane(), 1);
        Due.is("told(3)", run.told(3), 9);
        Due.is("told(0)", run.told(0), 12);
    }

    private static void laneRead() {
        PancakeRun run = Due.reading("lane 24;wind 23 3;wind 0 1;wet 23;wet 1;runner 4 9;"
            + "runner 1 0;runner 3 5;rope 1;need 1;drop 1;", 11);
        Due.is("told(0)", run.told(0), 24);
        Due.is("told(1)", run.told(1), 1);
        Due.is("told(2)", run.told(2), 1);
        Due.is("told(3)", run.told(3), 1);
        Due.is("yard(23, 0)", run.yard(23, 0), 3);
        Due.is("yard(0, 0)", run.yard(0, 0), 1);
        Due.is("yard(1, 0)", run.yard(1, 0), 0);
        Due.is("yard(23, 1)", run.yard(23, 1), 1);
        Due.is("yard(1, 1)", run.yard(1, 1), 1);
        Due.is("yard(0, 1)", run.yard(0, 1), 0);
        Due.is("yard(24, 0)", run.yard(24, 0), PancakeRun.BAD);
        int[][] told = {{4, 9}, {1, 0}, {3, 5}};
        for (int r = 0; r < 3; r++) {
            Due.is("runner(" + r + ", 0)", run.runner(r, 0), told[r][0]);
            Due.is("runner(" + r + ", 1)", run.runner(r, 1), told[r][1]);
            for (int what = 2; what < 6; what++) {
                Due.is("runner(" + r + ", " + what + ")", run.runner(r, what), 0);
            }
        }
        Due.is("count(0)", run.count(0), 3);
        Due.is("count(3)", run.count(3), 0);
        run = Due.reading("need 1;", 1);
        Due.is("told(1) of need alone", run.told(1), 2);
        Due.is("told(2) of need alone", run.told(2), 1);
        Due.is("told(3) of need alone", run.told(3), 3);
        run = Due.reading("lane 4;rope 3;need 4;drop 9;", 4);
        Due.is("told(0)", run.told(0), 4);
        Due.is("told(1)", run.told(1), 3);
        Due.is("told(2)", run.told(2), 4);
        Due.is("told(3)", run.told(3), 9);
        Due.is("yard(4, 1)", run.yard(4, 1), PancakeRun.BAD);
    }

    private static void toldAgain() {
        PancakeRun run = Due.reading("wind 3 3;wind 3 1;wet 3;wet 3;wind 4 2;", 5);
        Due.is("yard(3, 0)", run.yard(3, 0), 1);
        Due.is("yard(4, 0)", run.yard(4, 0), 2);
        Due.is("yard(3, 1)", run.yard(3, 1), 1);
    }

    private static void blanks() {
        PancakeRun run = Due.reading("lane5;wind0 1;wet 4;runner2 7;", 4);
        Due.is("told(0)", run.told(0), 5);
        Due.is("yard(0, 0)", run.yard(0, 0), 1);
        Due.is("runner(0, 1)", run.runner(0, 1), 7);
        run = Due.reading("   lane   5  ;  need  2;  ", 2);
        Due.is("told(0)", run.told(0), 5);
        Due.is("told(2)", run.told(2), 2);
        Due.fault("lanefive;", 0);
        Due.fault("wind 11;", 7);
        Due.fault("wind 1\t2;", 6);
    }

    private static void readAnew() {
        PancakeRun run = Due.reading("lane 5;wind 1 1;wet 2;runner 2 9;rope 1;need 1;drop 2;", 7);
        run.runs(0, 1);
        run.picture(1, 1);
        run.keep(0);
        run.keep(1);
        run.rate(0, 1, 0);
        run.lot(77);
        Due.is("lane() of nothing", run.lane(), 0);
        int[] first = {12, 2, 3, 3};
        for (int what = 0; what < 4; what++) {
            Due.is("told(" + what + ")", run.told(what), first[what]);
            Due.is("count(" + what + ")", run.count(what), 0);
        }
        Due.is("yard(1, 0)", run.yard(1, 0), 0);
        Due.is("yard(2, 1)", run.yard(2, 1), 0);
        Due.is("undo()", run.undo(), PancakeRun.STATE);
        Due.is("back(0)", run.back(0), PancakeRun.STATE);
        Due.is("back(1)", run.back(1), PancakeRun.STATE);
        Due.is("trace()", run.trace(), 1);
        Due.is("lot(1)", run.lot(1), 77);
        Due.type(run, "runner 3 3;");
        Due.is("lane()", run.lane(), 1);
        Due.is("runner(0, 2)", run.runner(0, 2), 0);
        Due.is("runner(0, 3)", run.runner(0, 3), 0);
        Due.is("runner(0, 4)", run.runner(0, 4), 0);
    }

    private static void nothingIsLeft(PancakeRun run) {
        int[] first = {12, 2, 3, 3};
        for (int what = 0; what < 4; what++) {
            Due.is("told(" + what + ") anew", run.told(what), first[what]);
        }
        for (int y = 0; y < 12; y++) {
            Due.is("yard(" + y + ", 0) anew", run.yard(y, 0), 0);
            Due.is("yard(" + y + ", 1) anew", run.yard(y, 1), 0);
        }
        Due.is("count(0) anew", run.count(0), 0);
    }

    /** Nothing is left of a text before, of the one before that, or of one with a FAULT. */
    private static void readAnewAgain() {
        String signs = "lane 8;wind 0 1;wind 7 1;wet 0;wet 7;runner 1 1;rope 1;need 1;drop 1;";
        PancakeRun run = Due.reading(signs, 9);
        for (int i = 0; i < 3; i++) {
            run.lane();
            nothingIsLeft(run);
        }
        Due.type(run, signs + "lane");
        Due.is("lane()", run.lane(), -10 - signs.length());
        nothingIsLeft(run);
        run.clear();
        run.lane();
        nothingIsLeft(run);
    }

    private static void faultsOfTokens() {
        Due.fault("Lane 4;", 0);
        Due.fault("lane 4;lan 4;", 7);
        Due.fault("lanez 4;", 0);
        Due.fault("alane 4;", 0);
        String[] words = {"lane", "wind", "wet", "runner", "rope", "need", "drop"};
        for (String word : words) {
            Due.fault("x" + word.substring(1) + " 4 1;", 0);
            Due.fault(word.substring(0, word.length() - 1) + "x 4 1;", 0);
            Due.fault(word.substring(1) + " 4 1;", 0);
            Due.fault(word.toUpperCase() + " 4 1;", 0);
        }
        Due.fault("lane 4;wets 4;", 7);
        Due.fault("lane -4;", 5);
        Due.fault("lane 4,", 6);
        Due.fault("lane 04;", 5);
        Due.fault("wet 00;", 4);
        Due.fault("wet 100;", 4);
        Due.fault("wet 4294967297;", 4);
        Due.fault("wet 18446744073709551617;", 4);
        Due.fault("\u0000", 0);
        Due.fault("wet 1;\u00f0", 6);
        Due.fault("wet 1;{", 6);
        Due.fault("wet 1;`", 6);
        Due.fault("wet /;", 4);
        Due.fault("wet :;", 4);
        PancakeRun run = Due.reading("wet 0;", 1);
        Due.is("yard(0, 1)", run.yard(0, 1), 1);
    }

    private static void faultsOfOrder() {
        Due.fault(";", 0);
        Due.fault("wet 1;;", 6);
        Due.fault("4;", 0);
        Due.fault("lane;", 4);
        Due.fault("lane wet;", 5);
        Due.fault("lane 4 5;", 7);
        Due.fault("lane 4 wet 1;", 7);
        Due.fault("wind 1;", 6);
        Due.fault("wind 1 1 1;", 9);
        Due.fault("runner 1;", 8);
        Due.fault("wet 1;lane 5;", 6);
        Due.fault("lane 5;lane 5;", 7);
        Due.fault("rope 1;rope 1;", 7);
        Due.fault("need 1;need 1;", 7);
        Due.fault("drop 1;drop 1;", 7);
        Due.fault("rope 1;need 1;wet 1;drop 1;rope 1;", 27);
        Due.fault("need 1;drop 1;runner 1 1;need 1;", 25);
        Due.fault("drop 1;rope 1;wind 1 1;drop 1;", 23);
        Due.fault("runner 1 1;runner 1 1;runner 1 1;runner 1 1;", 33);
        // The first FAULT counts, whatever comes behind it.
        Due.fault("rope 4;#", 5);
        Due.fault("#rope 4;", 0);
    }

    private static void faultsOfNumbers() {
        Due.fault("lane 3;", 5);
        Due.fault("lane 25;", 5);
        Due.fault("lane 5;wind 5 1;", 12);
        Due.fault("lane 5;wet 5;", 11);
        Due.fault("wet 12;", 4);
        Due.fault("wind 12 1;", 5);
        Due.fault("wind 1 0;", 7);
        Due.fault("wind 1 4;", 7);
        Due.fault("runner 0 1;", 7);
        Due.fault("runner 5 1;", 7);
        Due.fault("runner 1 10;", 9);
        Due.fault("rope 0;", 5);
        Due.fault("rope 4;", 5);
        Due.fault("need 0;", 5);
        Due.fault("need 5;", 5);
        Due.fault("drop 0;", 5);
        Due.fault("drop 10;", 5);
        Due.reading("lane 13;wind 12 1;wet 12;", 3);
    }

    private static void faultsOfTheEnd() {
        Due.fault("lane", 4);
        Due.fault("lane ", 5);
        Due.fault("lane 5", 6);
        Due.fault("lane 5  ", 8);
        Due.fault("wind 1 ", 7);
        Due.fault("runner 1 1", 10);
        Due.fault("lan", 0);
        Due.fault("wet 100", 4);
    }

    private static void faultChangesNothing() {
        PancakeRun run = Due.reading("lane 6;runner 2 7;wind 1 2;wet 3;rope 1;need 2;drop 5;", 7);
        run.runs(0, 1);
        run.picture(2, 1);
        run.keep(1);
        Due.type(run, "lane 8;runner 1 1;runner 1 1;wind 0 1;wet 0;rope 3;need 3;drop 1;x");
        Due.is("lane()", run.lane(), -10 - 65);
        Due.is("count(3)", run.count(3), 66);
        Due.is("told(0)", run.told(0), 6);
        Due.is("told(1)", run.told(1), 1);
        Due.is("told(2)", run.told(2), 2);
        Due.is("told(3)", run.told(3), 5);
        Due.is("yard(0, 0)", run.yard(0, 0), 0);
        Due.is("yard(1, 0)", run.yard(1, 0), 2);
        Due.is("yard(0, 1)", run.yard(0, 1), 0);
        Due.is("yard(3, 1)", run.yard(3, 1), 1);
        Due.is("count(0)", run.count(0), 1);
        Due.is("count(1)", run.count(1), 1);
        Due.is("count(2)", run.count(2), 1);
        Due.is("runner(0, 0)", run.runner(0, 0), 2);
        Due.is("runner(0, 2)", run.runner(0, 2), 2);
        Due.is("back(1)", run.back(1), 0);
        // What comes behind the text that is there can mend it no more, but all of it is read again.
        Due.is("lane()", run.lane(), -10 - 65);
    }

    private static void wrongNumbers() {
        PancakeRun run = Due.reading("lane 6;runner 2 7;", 2);
        int[] wrong = {-1, Integer.MIN_VALUE, Integer.MAX_VALUE, 100};
        for (int w : wrong) {
            Due.is("yard(" + w + ", 0)", run.yard(w, 0), PancakeRun.BAD);
            Due.is("yard(0, " + w + ")", run.yard(0, w), PancakeRun.BAD);
            Due.is("told(" + w + ")", run.told(w), PancakeRun.BAD);
            Due.is("runner(" + w + ", 0)", run.runner(w, 0), PancakeRun.BAD);
            Due.is("runner(0, " + w + ")", run.runner(0, w), PancakeRun.BAD);
        }
        Due.is("yard(6, 1)", run.yard(6, 1), PancakeRun.BAD);
        Due.is("yard(5, 1)", run.yard(5, 1), 0);
        Due.is("yard(5, 2)", run.yard(5, 2), PancakeRun.BAD);
        Due.is("told(4)", run.told(4), PancakeRun.BAD);
        Due.is("runner(1, 0)", run.runner(1, 0), PancakeRun.BAD);
        Due.is("runner(0, 6)", run.runner(0, 6), PancakeRun.BAD);
    }
}
