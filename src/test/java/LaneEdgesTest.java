/** The edges that part 1 of the document and promises 1 to 7 name, a sentence at a time. */
final class LaneEdgesTest {
    private LaneEdgesTest() {
    }

    public static void main(String[] args) {
        yardsFourToTwentyFour();
        twelveYardsAtFirst();
        windOneToThree();
        noWindAndNotWetElsewhere();
        windToldAgain();
        threeRunnersAtMost();
        paceOneToFour();
        panNoneToNine();
        ropeNeedDrop();
        onceEachAtMost();
        laneFirstOfAll();
        itemsNoneAndMost();
        itemsEndedBySemicolon();
        blanksAnyNumber();
        blanksAreThirtyTwo();
        blanksNeededOnlyBetween();
        wordsOfLetters();
        numbersAboveNinetyNine();
        numbersWithZeroAhead();
        endsTooEarly();
        firstFaultOfSeveral();
        textUpToThreeHundred();
        lowestBytesHighestFirst();
        clearEmptyAndFull();
        readAnewAllBegin();
        readAnewTellsAll();
        Due.end();
    }

    private static void hasYards(PancakeRun run, int n) {
        Due.is("told(0)", run.told(0), n);
        for (int what = 0; what <= 1; what++) {
            Due.is("yard(-1) of " + n, run.yard(-1, what), PancakeRun.BAD);
            Due.holds("yard(0) of " + n, run.yard(0, what) != PancakeRun.BAD);
            Due.holds("yard(n - 1) of " + n, run.yard(n - 1, what) != PancakeRun.BAD);
            Due.is("yard(n) of " + n, run.yard(n, what), PancakeRun.BAD);
            Due.is("yard(24) of " + n, run.yard(24, what), PancakeRun.BAD);
        }
    }

    /** "YARDS 0 .. n - 1 (n 4 .. 24", "a Y beyond the LANE". */
    private static void yardsFourToTwentyFour() {
        for (int n : new int[] {4, 5, 12, 23, 24}) {
            String lane = "lane " + n + ";";
            String last = String.valueOf(n - 1);
            PancakeRun run = Due.reading(lane + "wind 0 1;wet 0;wind " + last + " 2;wet " + last + ";", 5);
            hasYards(run, n);
            Due.is("yard(0, 0)", run.yard(0, 0), 1);
            Due.is("yard(n - 1, 0)", run.yard(n - 1, 0), 2);
            Due.is("yard(n - 1, 1)", run.yard(n - 1, 1), 1);
            Due.faultBehind(lane + "wind ", n + " 1;");
            Due.faultBehind(lane + "wet ", n + ";");
            Due.faultBehind(lane + "wind ", n + 1 + " 1;");
            Due.faultBehind(lane + "wet ", "99;");
        }
        for (String n : new String[] {"0", "1", "3", "25", "26", "99"}) {
            Due.faultBehind("lane ", n + ";");
        }
    }

    /** "12 at first": of a new object, and of a text that does not tell it. */
    private static void twelveYardsAtFirst() {
        hasYards(new PancakeRun(), 12);
        PancakeRun run = Due.reading("wind 11 3;wet 11;", 2);
        hasYards(run, 12);
        Due.faultBehind("wind ", "12 3;");
        Due.faultBehind("wet ", "12;");
    }

    /** "WIND on some (1 .. 3". */
    private static void windOneToThree() {
        for (int v = 1; v <= 3; v++) {
            Due.is("WIND " + v, Due.reading("wind 5 " + v + ";", 1).yard(5, 0), v);
        }
        for (String v : new String[] {"0", "4", "5", "99"}) {
            Due.faultBehind("wind 5 ", v + ";");
        }
    }

    /** "0 on others", "some are WET": the YARDS beside are neither. */
    private static void noWindAndNotWetElsewhere() {
        PancakeRun run = Due.reading("lane 7;wind 2 3;wet 4;", 3);
        int[] wind = {0, 0, 3, 0, 0, 0, 0};
        int[] wet = {0, 0, 0, 0, 1, 0, 0};
        for (int y = 0; y < 7; y++) {
            Due.is("yard(" + y + ", 0)", run.yard(y, 0), wind[y]);
            Due.is("yard(" + y + ", 1)", run.yard(y, 1), wet[y]);
        }
    }

    /** "wind Y V (told again: the later one counts)", also if it is the less. */
    private static void windToldAgain() {
        Due.is("3, then 1", Due.reading("wind 0 3;wind 0 1;", 2).yard(0, 0), 1);
        Due.is("1, then 3", Due.reading("wind 0 1;wind 0 3;", 2).yard(0, 0), 3);
        Due.is("1, 3, 2", Due.reading("wind 0 1;wet 0;wind 0 3;wind 0 2;", 4).yard(0, 0), 2);
        PancakeRun run = Due.reading("wet 0;wet 0;wet 1;wet 0;", 4);
        Due.is("wet told again", run.yard(0, 1), 1);
    }

    /** "RUNNERS 0 .. (3 at most)", "a fourth runner". */
    private static void threeRunnersAtMost() {
        String signs = "";
        for (int runners = 0; runners <= 3; runners++) {
            PancakeRun run = Due.reading(signs, runners);
            Due.is("count(0)", run.count(0), runners);
            Due.is("the last one", run.runner(runners - 1, 0), runners == 0 ? PancakeRun.BAD : runners);
            Due.is("the next one", run.runner(runners, 0), PancakeRun.BAD);
            signs += "runner " + (runners + 1) + " 0;";
        }
        String three = "runner 1 0;runner 2 0;runner 3 0;";
        Due.faultBehind(three, "runner 4 0;");
        Due.faultBehind(three, "runner");
        Due.faultBehind(three + "wet 0;rope 1;", "runner 1 1;");
    }

    /** "PACE (1 .. 4 YARDS a BEAT)". */
    private static void paceOneToFour() {
        for (int pace = 1; pace <= 4; pace++) {
            PancakeRun run = Due.reading("runner " + pace + " 5;", 1);
            Due.is("PACE", run.runner(0, 0), pace);
            Due.is("one BEAT of it", run.runs(0, 1), pace);
        }
        for (String pace : new String[] {"0", "5", "10", "99"}) {
            Due.faultBehind("runner ", pace + " 5;");
        }
    }

    /** "PAN (0 .. 9)". */
    private static void panNoneToNine() {
        for (int pan = 0; pan <= 9; pan++) {
            Due.is("PAN", Due.reading("runner 1 " + pan + ";", 1).runner(0, 1), pan);
        }
        for (String pan : new String[] {"10", "11", "99"}) {
            Due.faultBehind("runner 1 ", pan + ";");
        }
    }

    private static void oneNumber(String word, int what, int atFirst, int greatest) {
        Due.is(word + " at first", new PancakeRun().told(what), atFirst);
        Due.is(word + " not told", Due.reading("lane 24;", 1).told(what), atFirst);
        for (int number = 1; number <= greatest; number++) {
            PancakeRun run = Due.reading(word + " " + number + ";", 1);
            for (int other = 1; other <= 3; other++) {
                int due = other == what ? number : other == 1 ? 2 : 3;
                Due.is(word + " " + number + ": told(" + other + ")", run.told(other), due);
            }
        }
        Due.faultBehind(word + " ", "0;");
        Due.faultBehind(word + " ", greatest + 1 + ";");
        Due.faultBehind(word + " ", "99;");
    }

    /** "ROPE (1 .. 3; 2 at first)", "NEED (1 .. 4; 3 at first)", "DROP (1 .. 9; 3 at first)". */
    private static void ropeNeedDrop() {
        oneNumber("rope", 1, 2, 3);
        oneNumber("need", 2, 3, 4);
        oneNumber("drop", 3, 3, 9);
    }

    /** "rope N, need N, drop N (once each at most)": the same number again, too, at once and later. */
    private static void onceEachAtMost() {
        String[] words = {"rope", "need", "drop"};
        for (String word : words) {
            Due.faultBehind(word + " 1;", word + " 1;");
            Due.faultBehind(word + " 1;", word + " 2;");
            Due.faultBehind(word + " 1;wet 0;runner 1 1;", word + " 2;");
            Due.faultBehind("wet 0;" + word + " 1;wind 0 1;", word);
        }
        Due.reading("rope 1;need 1;drop 1;", 3);
        Due.reading("drop 1;rope 1;need 1;", 3);
        Due.reading("need 1;drop 1;rope 1;", 3);
    }

    /** "lane N (the first of all, if it is told)", "lane behind another ITEM". */
    private static void laneFirstOfAll() {
        Due.is("lane alone", Due.reading("lane 6;", 1).told(0), 6);
        String[] ahead = {"wind 0 1;", "wet 0;", "runner 1 1;", "rope 1;", "need 1;", "drop 1;", "lane 6;"};
        for (String item : ahead) {
            Due.faultBehind(item, "lane 6;");
            Due.faultBehind(item, "lane");
            Due.faultBehind("lane 6;" + item.replace("lane 6;", ""), "lane 6;");
        }
    }

    /** "ITEMS (none, too)", and the most that go into 300 bytes. */
    private static void itemsNoneAndMost() {
        Due.reading("", 0);
        Due.reading(" ", 0);
        Due.reading("wet1;", 1);
        Due.reading("wet1;".repeat(59), 59);
        Due.reading("wet1;".repeat(60), 60);
        Due.reading("lane4;" + "wet1;".repeat(58), 59);
    }

    /** "each ended by ;": none is missing, and none is more. */
    private static void itemsEndedBySemicolon() {
        String[] items = {"lane 9", "wind 8 3", "wet 8", "runner 4 9", "rope 3", "need 4", "drop 9"};
        for (String item : items) {
            Due.reading(item + ";", 1);
            Due.reading(item + " ;", 1);
            Due.fault(item, item.length());
            Due.faultBehind(item + " ", "wet 1;");
            Due.faultBehind(item + " ", "1;");
            Due.faultBehind(item + ";", ";");
            Due.faultBehind(item + " ;wet 0; ", ";");
        }
        Due.fault(";", 0);
        Due.fault("  ;", 2);
        String[] words = {"lane", "wind", "wet", "runner", "rope", "need", "drop"};
        for (String word : words) {
            Due.faultBehind(word, ";");
            Due.faultBehind(word + " ", "wet 1;");
        }
        Due.faultBehind("wind 8", ";");
        Due.faultBehind("runner 4", ";");
        Due.faultBehind("wind 8 ", "wet 8;");
        Due.fault("8 wet;", 0);
    }

    /** "blanks (32), any number, ahead of, between, behind TOKENS". */
    private static void blanksAnyNumber() {
        for (int many : new int[] {0, 1, 2, 100, 296}) {
            String blanks = " ".repeat(many);
            Due.reading(blanks, 0);
            if (many < 295) {
                Due.is("ahead of", Due.reading(blanks + "wet1;", 1).yard(1, 1), 1);
                Due.is("between", Due.reading("wet" + blanks + "1;", 1).yard(1, 1), 1);
                Due.is("between", Due.reading("wet1" + blanks + ";", 1).yard(1, 1), 1);
                Due.is("behind", Due.reading("wet1;" + blanks, 1).yard(1, 1), 1);
            }
        }
        Due.is("behind, full", Due.reading("wet1;" + " ".repeat(295), 1).yard(1, 1), 1);
        Due.is("ahead, full", Due.reading(" ".repeat(295) + "wet1;", 1).yard(1, 1), 1);
        Due.fault("wet1" + " ".repeat(296), 300);
        Due.fault(" ".repeat(299) + "1", 299);
        Due.reading(" ".repeat(300), 0);
    }

    /** "(32)": the bytes beside it, and others that look like blanks, begin no TOKEN. */
    private static void blanksAreThirtyTwo() {
        int[] others = {0, 9, 10, 11, 12, 13, 31, 33, 127, 128, 133, 160, 255};
        for (int other : others) {
            String sign = "" + (char) other;
            Due.fault(sign, 0);
            Due.fault(sign + "wet 1;", 0);
            Due.fault("wet" + sign + "1;", 3);
            Due.fault("wet 1" + sign + ";", 5);
            Due.fault("wet 1;" + sign, 6);
        }
    }

    /** "(needed only between two rows of letters, two NUMBERS)". */
    private static void blanksNeededOnlyBetween() {
        PancakeRun run = Due.reading("lane6;wind5 3;wet4;runner4 9;rope3;need4;drop9;", 7);
        Due.is("told(0)", run.told(0), 6);
        Due.is("yard(5, 0)", run.yard(5, 0), 3);
        Due.is("runner(0, 1)", run.runner(0, 1), 9);
        // Two rows of letters are one word, two NUMBERS are one number.
        Due.fault("wetwet 1;", 0);
        Due.fault("wet 1;wetlane", 6);
        Due.fault("wind 13;", 5);
        Due.fault("wind 11;", 7);
        Due.fault("runner 49;", 7);
        // A word may stand right behind a NUMBER, and so a NUMBER behind a word: both are read.
        Due.fault("wet 1wet 1;", 5);
        Due.fault("wind 1wet;", 6);
        // Words and NUMBERS are not split by blanks.
        Due.fault("we t 1;", 0);
        Due.fault("wet 1 1;", 6);
    }

    /** "words of letters a .. z": the first and last of them, the bytes beside, and capitals. */
    private static void wordsOfLetters() {
        // Within a word, a byte that is no letter ends it; a letter makes it another word.
        for (char sign : "`{@[AZ/:<".toCharArray()) {
            Due.faultBehind("wet", sign + " 1;");
            Due.fault(sign + "wet 1;", 0);
            Due.fault("wet 1" + sign, 5);
        }
        for (char sign : "az".toCharArray()) {
            Due.fault("wet" + sign + " 1;", 0);
            Due.fault(sign + "wet 1;", 0);
            Due.fault("wet 1" + sign, 5);
            Due.fault("" + sign, 0);
        }
        String[] none = {"lan", "lanes", "win", "winds", "we", "wets", "runne", "runners", "rop", "ropes",
            "nee", "needs", "dro", "drops", "Lane", "WET", "yard", "a", "z", "turn"};
        for (String word : none) {
            Due.fault(word + " 1 1;", 0);
            Due.faultBehind("wet 0;", word + " 1 1;");
            Due.faultBehind("wet ", word + ";");
        }
        // Each letter of a word counts, the first and the last, too.
        for (String word : new String[] {"lane", "wind", "wet", "runner", "rope", "need", "drop"}) {
            for (int at = 0; at < word.length(); at++) {
                Due.fault(word.substring(0, at) + "x" + word.substring(at + 1) + " 4 1;", 0);
                Due.fault(word.substring(0, at) + word.substring(at + 1) + " 4 1;", 0);
            }
        }
        Due.fault("w".repeat(300), 0);
    }

    /** "a NUMBER above 99 .. that TOKEN's": however long, also where it would wrap to one that may be. */
    private static void numbersAboveNinetyNine() {
        String[] numbers = {"99", "100", "101", "256", "260", "1000", "65540", "4294967300", "8589934596",
            "18446744073709551620", "340282366920938463463374607431768211460", "9".repeat(290)};
        for (String number : numbers) {
            Due.faultBehind("lane ", number + ";");
            Due.faultBehind("lane ", number);
            Due.faultBehind("wet ", number + ";");
            Due.fault(number, 0);
            Due.faultBehind("wet 1;", number);
        }
    }

    /** "or with a 0 ahead of others": 0 alone is a NUMBER. */
    private static void numbersWithZeroAhead() {
        Due.is("0 alone", Due.reading("wet 0;", 1).yard(0, 1), 1);
        Due.is("0 alone", Due.reading("runner 1 0;", 1).runner(0, 1), 0);
        Due.is("0 behind another", Due.reading("lane 10;", 1).told(0), 10);
        Due.is("0 behind another", Due.reading("lane 20;", 1).told(0), 20);
        String[] numbers = {"00", "01", "04", "09", "010", "000", "0000000000000004"};
        for (String number : numbers) {
            Due.faultBehind("lane ", number + ";");
            Due.faultBehind("wet ", number + ";");
            Due.faultBehind("wet ", number);
            Due.faultBehind("runner 1 ", number + ";");
            Due.fault(number, 0);
        }
    }

    /** "the text's length, if it ends too early": behind each TOKEN that is not an ITEM's last. */
    private static void endsTooEarly() {
        String[] rows = {"lane", "lane 4", "wind", "wind 3", "wind 3 3", "wet", "wet 3", "runner", "runner 4",
            "runner 4 9", "rope", "rope 3", "need", "need 4", "drop", "drop 9"};
        for (String row : rows) {
            for (String behind : new String[] {"", " ", "     "}) {
                String signs = row + behind;
                Due.fault(signs, signs.length());
                if (!row.startsWith("lane")) {
                    Due.fault("wet 1;" + signs, 6 + signs.length());
                }
            }
        }
        // A cut word or a number that may not be is the TOKEN's, though the text ends there.
        Due.fault("wet 1;we", 6);
        Due.fault("wet 12", 4);
        Due.fault("lane 3", 5);
        String full = "wet1;".repeat(59);
        Due.fault(full + "wet1 ", 300);
        Due.fault(full + "rope ", 300);
        Due.fault(full + "rope", 299);
        // The last TOKEN's last byte is the text's 300th.
        Due.fault(full + " rope", 300);
        Due.fault(full + "wet 1", 300);
        Due.fault(full + " ropx", 296);
        Due.fault(full + "wet12", 298);
    }

    /** "the first TOKEN that can't stand there". */
    private static void firstFaultOfSeveral() {
        Due.fault("lane 3;wet 99;#", 5);
        Due.fault("lane 4;wet 99;#", 11);
        Due.fault("lane 4;wet 3;#", 13);
        Due.fault("runner 5 10;", 7);
        Due.fault("runner 4 10;", 9);
        Due.fault("wind 12 4;", 5);
        Due.fault("wind 11 4;", 8);
        Due.fault("rope 1;rope 4;", 7);
        Due.fault("wet 1 wet 99;", 6);
    }

    /** "They are a text (300 bytes at most)": as many as that are read, whatever n they come by. */
    private static void textUpToThreeHundred() {
        for (int n = 1; n <= 8; n++) {
            PancakeRun run = new PancakeRun();
            int typed = 0;
            for (int i = 0; typed + n <= 300; i++) {
                typed += n;
                Due.is("type " + n, run.type(0x2020202020202020L, n), typed);
            }
            int rest = 300 - typed;
            Due.is("one more than there is room for", run.type(0x20, rest + 1), PancakeRun.FULL);
            if (rest > 0) {
                Due.is("all that there is room for", run.type(0x2020202020202023L, rest), 300);
                Due.is("lane()", run.lane(), -10 - 299);
            } else {
                Due.is("lane()", run.lane(), 0);
            }
        }
    }

    /** "The lowest n (1 .. 8) bytes of v, the highest of them first". */
    private static void lowestBytesHighestFirst() {
        // ";" at one place, blanks at the others: the FAULT tells where it came.
        for (int n = 1; n <= 8; n++) {
            for (int at = 0; at < n; at++) {
                long bytes = 0x2020202020202020L ^ (long) (0x20 ^ 0x3b) << 8 * (n - 1 - at);
                long above = n == 8 ? 0 : -1L << 8 * n;
                PancakeRun run = new PancakeRun();
                Due.is("type", run.type(bytes | above, n), n);
                Due.is("lane() of ; at " + at + " of " + n, run.lane(), -10 - at);
            }
        }
        PancakeRun run = new PancakeRun();
        Due.is("type", run.type(Long.MIN_VALUE | 0x20202020202020L, 8), 8);
        Due.is("a byte 128 first", run.lane(), -10);
        run = new PancakeRun();
        Due.is("type", run.type(Long.MIN_VALUE | 0x20202020202020L, 7), 7);
        Due.is("a byte 128 left out", run.lane(), 0);
        run = new PancakeRun();
        Due.is("type", run.type(0x20202020202020ffL, 8), 8);
        Due.is("a byte 255 last", run.lane(), -17);
    }

    /** "THE TEXT is empty: how many bytes it had." */
    private static void clearEmptyAndFull() {
        for (int bytes : new int[] {0, 1, 8, 299, 300}) {
            PancakeRun run = new PancakeRun();
            Due.type(run, ";".repeat(bytes));
            Due.is("clear()", run.clear(), bytes);
            Due.is("clear() again", run.clear(), 0);
            Due.is("lane() of none", run.lane(), 0);
            Due.type(run, "wet 3;");
            Due.is("lane()", run.lane(), 1);
            Due.is("clear() behind lane()", run.clear(), 0);
        }
    }

    /** "Read anew: all begin, no PICTURES, IMAGES are gone, nothing can be UNDONE; THE LOT stays". */
    private static void readAnewAllBegin() {
        for (String signs : new String[] {"", "lane 6;wet 3;runner 2 2;", Scene.TEXT}) {
            PancakeRun run = Scene.begun();
            long trace = run.trace();
            run.clear();
            Due.type(run, signs);
            Due.holds("lane()", run.lane() >= 0);
            Due.is("PICTURES", run.count(1), 0);
            Due.is("could(0)", run.could(0), 32);
            Due.is("undo()", run.undo(), PancakeRun.STATE);
            Due.is("back(0)", run.back(0), PancakeRun.STATE);
            Due.is("back(1)", run.back(1), PancakeRun.STATE);
            Due.is("bytes", run.count(3), 0);
            for (int r = 0; r < run.count(0); r++) {
                for (int what = 2; what <= 5; what++) {
                    Due.is("runner(" + r + ", " + what + ")", run.runner(r, what), 0);
                }
            }
            Due.is("THE TRACE", run.trace(), trace);
            PancakeRun twin = Scene.begun();
            Due.is("THE LOT", run.lot(3), twin.lot(3));
            // But for THE LOT and THE TRACE it is as a new one that reads the same.
            PancakeRun fresh = new PancakeRun();
            fresh.lot(3);
            fresh.rate(4, 2, 1);
            Due.type(fresh, signs);
            fresh.lane();
            Due.same("read anew", Scene.all(run), Scene.all(fresh));
        }
    }

    /** "THE TEXT tells all anew": of what one told before nothing is left, at YARDS 0 and n - 1, too. */
    private static void readAnewTellsAll() {
        StringBuilder signs = new StringBuilder("lane 24;");
        for (int y = 0; y <= 23; y += 1 + y % 2 * 7) {
            signs.append("wind ").append(y).append(" 3;wet ").append(y).append(';');
        }
        signs.append("wind 23 1;wet 23;runner 4 9;rope 3;need 4;drop 9;");
        String[] others = {"", "lane 24;", "lane 4;", "runner 1 1;"};
        for (String other : others) {
            // Once and more, lest what is read by turns should keep what it was told.
            for (int times = 1; times <= 3; times++) {
                PancakeRun run = new PancakeRun();
                for (int i = 0; i < times; i++) {
                    Due.type(run, signs.toString());
                    Due.holds("lane()", run.lane() > 6);
                }
                Due.type(run, other);
                Due.is("lane()", run.lane(), other.isEmpty() ? 0 : 1);
                isAsToldBy(run, other);
            }
        }
    }

    private static void isAsToldBy(PancakeRun run, String signs) {
        int n = signs.equals("lane 24;") ? 24 : signs.equals("lane 4;") ? 4 : 12;
        int[] due = {n, 2, 3, 3};
        for (int what = 0; what <= 3; what++) {
            Due.is("told(" + what + ") by " + signs, run.told(what), due[what]);
        }
        Due.is("count(0) by " + signs, run.count(0), signs.startsWith("runner") ? 1 : 0);
        for (int y = 0; y < n; y++) {
            Due.is("yard(" + y + ", 0) by " + signs, run.yard(y, 0), 0);
            Due.is("yard(" + y + ", 1) by " + signs, run.yard(y, 1), 0);
        }
    }
}
