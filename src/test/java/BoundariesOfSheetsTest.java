/** Boundary cases of promises 10 to 13: each sentence of the document that names one, by itself. */
public final class BoundariesOfSheetsTest extends WithNets {
    private BoundariesOfSheetsTest() {
    }

    public static void main(String[] args) {
        // Promise 10.
        sheetOfNoSuchSheetOrBits();
        sheetOfLessThanNone();
        sheetOfMoreThanTwentyFour();
        sheetFindingsInOrder();
        sheetOfNoneAndOfTwentyFour();
        sheetOfNoBitsIsMissing();
        sheetIsAllZeroAgain();
        // Promise 11.
        putOnNoSuchSheet();
        putOnAMissingSheet();
        putOfNoSuchNumber();
        putKeepsTheLowestBits();
        // Promise 12.
        copyOfNoSuchSheet();
        copyOfAMissingSheet();
        copyOfOtherBits();
        copyOfNotSoMany();
        copyBelowZero();
        copyWrapsAroundNowhere();
        copyFindingsInOrder();
        copyOfNoneAndOfAll();
        copyWithinOneSheet();
        // Promise 13.
        layOfNoSuchSheet();
        layOfAMissingSheet();
        layOfNoPost();
        layOfTheSame();
        layIsFullAtTwenty();
        layFindingsInOrder();
        layLeavesOutTheLastAlone();
        layOfNoPair();
        layOfTwelvePairs();
        layOfEachNumberOfBits();
        Check.end();
    }

    private static void numbers(String what, RoadBench x, int s, String due) {
        String seen = numbersOf(x, s);
        Check.holds(what + ": the sheet is " + seen + ", due is " + due, seen.equals(due));
    }

    private static void sheetOfNoSuchSheetOrBits() {
        for (int s : new int[] {-1, 4, LOW, HIGH}) {
            refused("sheet(" + s + ", 8, 1)", false, BEYOND, x -> x.sheet(s, 8, 1));
            refused("sheet(" + s + ", 0, 0)", false, BEYOND, x -> x.sheet(s, 0, 0));
        }
        for (int bits : new int[] {-1, 1, 7, 9, 15, 17, 24, 31, 33, 64, -8, -32, 256 + 8, LOW, HIGH}) {
            refused("sheet(0, " + bits + ", 1)", false, BEYOND, x -> x.sheet(0, bits, 1));
        }
    }

    private static void sheetOfLessThanNone() {
        for (int n : new int[] {-1, LOW}) {
            refused("sheet(0, 8, " + n + ")", false, SIZE, x -> x.sheet(0, 8, n));
            refused("sheet(2, 32, " + n + ")", false, SIZE, x -> x.sheet(2, 32, n));
            refused("sheet(0, 0, " + n + ")", false, SIZE, x -> x.sheet(0, 0, n));
        }
    }

    private static void sheetOfMoreThanTwentyFour() {
        for (int n : new int[] {25, HIGH}) {
            refused("sheet(0, 16, " + n + ")", false, BEYOND, x -> x.sheet(0, 16, n));
            refused("sheet(0, 0, " + n + ")", false, BEYOND, x -> x.sheet(0, 0, n));
        }
    }

    private static void sheetFindingsInOrder() {
        RoadBench x = new RoadBench();
        Check.due("sheet: no such sheet ahead of n below 0", x.sheet(4, 8, -1), BEYOND);
        Check.due("sheet: no such bits ahead of n below 0", x.sheet(0, 12, -1), BEYOND);
        Check.due("sheet: n below 0", x.sheet(0, 8, -1), SIZE);
    }

    private static void sheetOfNoneAndOfTwentyFour() {
        for (int bits = 8; bits <= 32; bits *= 2) {
            for (int s = 0; s < 4; s++) {
                RoadBench x = new RoadBench();
                Check.due("sheet of none", x.sheet(s, bits, 0), 0);
                Check.due("sheet of none is not MISSING", x.put(s, 0, 1), BEYOND);
                Check.due("sheet of 24", x.sheet(s, bits, 24), 24);
                Check.due("sheet of 24: its last", x.put(s, 23, 1), 0);
                Check.due("sheet of 24: one more", x.put(s, 24, 1), BEYOND);
            }
        }
    }

    private static void sheetOfNoBitsIsMissing() {
        for (int n : new int[] {0, 1, 24}) {
            RoadBench x = sheetOf(plain(2), 0, 8, 0, 1);
            Check.due("sheet(0, 0, " + n + ")", x.sheet(0, 0, n), 0);
            Check.due("sheet(0, 0, " + n + ") is MISSING", x.lay(0), MISSING);
            Check.due("sheet(0, 0, " + n + ") once more", x.sheet(0, 0, n), 0);
            Check.due("sheet is there again", x.sheet(0, 8, 2), 2);
            numbers("sheet is there again", x, 0, "8: 0 0");
        }
    }

    private static void sheetIsAllZeroAgain() {
        RoadBench x = sheetOf(new RoadBench(), 0, 32, 1, 2, 3, 4);
        x.sheet(0, 32, 1);
        x.sheet(0, 32, 4);
        numbers("sheet made shorter and longer again", x, 0, "32: 0 0 0 0");
        RoadBench y = sheetOf(sheetOf(new RoadBench(), 0, 8, 1, 2), 1, 8, 3, 4);
        y.sheet(0, 16, 3);
        numbers("sheet of other bits", y, 0, "16: 0 0 0");
        numbers("the other sheet stays", y, 1, "8: 3 4");
    }

    private static void putOnNoSuchSheet() {
        for (int s : new int[] {-1, 4, LOW, HIGH}) {
            refused("put(" + s + ", 0, 1)", false, BEYOND, x -> x.put(s, 0, 1));
        }
        Check.due("put: no such sheet, no such number", new RoadBench().put(4, 99, 1), BEYOND);
    }

    private static void putOnAMissingSheet() {
        refused("put(2, 0, 1)", false, MISSING, x -> x.put(2, 0, 1));
        refused("put(3, 0, 1)", false, MISSING, x -> x.put(3, 0, 1));
        refused("put: MISSING ahead of no such number", false, MISSING, x -> x.put(2, -1, 1));
        refused("put: MISSING ahead of no such number", false, MISSING, x -> x.put(2, 24, 1));
    }

    private static void putOfNoSuchNumber() {
        for (int i : new int[] {-1, 3, 23, 24, LOW, HIGH}) {
            refused("put(0, " + i + ", 1)", false, BEYOND, x -> x.put(0, i, 1));
        }
        RoadBench x = sheetOf(new RoadBench(), 0, 8, 5, 5, 5);
        Check.due("put: the first", x.put(0, 0, 1), 0);
        Check.due("put: the last", x.put(0, 2, 3), 0);
        numbers("put", x, 0, "8: 1 5 3");
    }

    private static void putKeepsTheLowestBits() {
        RoadBench x = new RoadBench();
        sheetOf(x, 0, 8, 256, 257, 255, -1, -256, -255, LOW, HIGH, 65536 + 2, 7);
        numbers("put of 8 bits", x, 0, "8: 0 1 - - 0 1 0 - 2 7");
        sheetOf(x, 0, 16, 65536, 65537, 256, -1, -65536, -65535, LOW, HIGH, 7);
        numbers("put of 16 bits", x, 0, "16: 0 1 - - 0 1 0 - 7");
        sheetOf(x, 0, 32, 65536, -1, LOW, HIGH, LOW + 1, 7, 0);
        numbers("put of 32 bits", x, 0, "32: - - - - - 7 0");
    }

    private static void copyOfNoSuchSheet() {
        for (int s : new int[] {-1, 4, LOW, HIGH}) {
            refused("copy(" + s + ", 0, 0, 0, 1)", false, BEYOND, x -> x.copy(s, 0, 0, 0, 1));
            refused("copy(0, 0, " + s + ", 0, 1)", false, BEYOND, x -> x.copy(0, 0, s, 0, 1));
        }
    }

    private static void copyOfAMissingSheet() {
        refused("copy from a MISSING one", false, MISSING, x -> x.copy(2, 0, 0, 0, 1));
        refused("copy to a MISSING one", false, MISSING, x -> x.copy(0, 0, 2, 0, 1));
        refused("copy of none from a MISSING one", false, MISSING, x -> x.copy(2, 0, 0, 0, 0));
        refused("copy of a MISSING one to itself", false, MISSING, x -> x.copy(3, 0, 3, 0, 0));
    }

    private static void copyOfOtherBits() {
        refused("copy of 8 bits to 32", false, KIND, x -> x.copy(0, 0, 1, 0, 1));
        refused("copy of 32 bits to 8", false, KIND, x -> x.copy(1, 0, 0, 0, 1));
        refused("copy of none to other bits", false, KIND, x -> x.copy(1, 0, 0, 0, 0));
        RoadBench x = sheetOf(sheetOf(new RoadBench(), 0, 16, 1), 1, 8, 1);
        Check.due("copy of 16 bits to 8", x.copy(0, 0, 1, 0, 1), KIND);
        Check.due("copy of 8 bits to 16", x.copy(1, 0, 0, 0, 1), KIND);
    }

    /** Sheet 0 has three numbers, sheet 2 two of as many bits. */
    private static void copyOfNotSoMany() {
        Ahead another = x -> sheetOf(x, 2, 8, 6, 7);
        int[][] wrong = {{0, 0, 3}, {2, 0, 2}, {3, 0, 1}, {4, 0, 0}, {0, 1, 2}, {0, 2, 1}, {0, 3, 0}, {0, 0, 4}};
        for (int[] w : wrong) {
            String call = "copy(0, " + w[0] + ", 2, " + w[1] + ", " + w[2] + ")";
            refusedAhead(call, false, BEYOND, x -> x.copy(0, w[0], 2, w[1], w[2]), another);
        }
        int[][] back = {{0, 0, 3}, {1, 0, 2}, {2, 0, 1}, {3, 0, 0}, {0, 2, 2}, {0, 4, 0}};
        for (int[] w : back) {
            String call = "copy(2, " + w[0] + ", 0, " + w[1] + ", " + w[2] + ")";
            refusedAhead(call, false, BEYOND, x -> x.copy(2, w[0], 0, w[1], w[2]), another);
        }
    }

    private static void copyBelowZero() {
        int[][] wrong = {{-1, 0, 1}, {0, -1, 1}, {0, 0, -1}, {-1, 0, 0}, {0, -1, 0}, {1, 1, -1}, {-1, -1, 3},
            {LOW, 0, 1}, {0, LOW, 1}, {0, 0, LOW}, {LOW, LOW, LOW}};
        for (int[] w : wrong) {
            String call = "copy(0, " + w[0] + ", 0, " + w[1] + ", " + w[2] + ")";
            refused(call, false, BEYOND, x -> x.copy(0, w[0], 0, w[1], w[2]));
        }
    }

    /** The sums from + n and to + n are beyond what an int holds, or below 0 as ints. */
    private static void copyWrapsAroundNowhere() {
        int[][] wrong = {{HIGH, 0, 1}, {0, HIGH, 1}, {1, 0, HIGH}, {0, 1, HIGH}, {HIGH, HIGH, HIGH}, {HIGH, 0, HIGH},
            {HIGH, 0, 0}, {0, HIGH, 0}, {1 << 30, 1 << 30, 1 << 30}, {HIGH, 0, LOW}, {0, HIGH, LOW + 1},
            {HIGH - 1, HIGH - 1, 3}};
        for (int[] w : wrong) {
            String call = "copy(0, " + w[0] + ", 0, " + w[1] + ", " + w[2] + ")";
            refused(call, false, BEYOND, x -> x.copy(0, w[0], 0, w[1], w[2]));
        }
    }

    private static void copyFindingsInOrder() {
        RoadBench x = sheetOf(sheetOf(new RoadBench(), 0, 8, 1), 1, 16, 1);
        Check.due("copy: no such sheet ahead of MISSING", x.copy(2, 0, 4, 0, 1), BEYOND);
        Check.due("copy: no such sheet ahead of MISSING", x.copy(-1, 0, 2, 0, 1), BEYOND);
        Check.due("copy: MISSING ahead of KIND and of numbers", x.copy(0, -1, 2, 99, -1), MISSING);
        Check.due("copy: KIND ahead of numbers", x.copy(0, -1, 1, 99, -1), KIND);
        Check.due("copy: numbers", x.copy(0, 0, 0, 1, 1), BEYOND);
    }

    private static void copyOfNoneAndOfAll() {
        RoadBench x = sheetOf(sheetOf(new RoadBench(), 0, 8, 1, 2, 3), 1, 8, 4, 5, 6);
        Check.due("copy of none", x.copy(0, 0, 1, 0, 0), 0);
        Check.due("copy of none at the ends", x.copy(0, 3, 1, 3, 0), 0);
        Check.due("copy of the last", x.copy(0, 2, 1, 0, 1), 1);
        Check.due("copy to the last", x.copy(0, 0, 1, 2, 1), 1);
        numbers("copy", x, 1, "8: 3 5 1");
        Check.due("copy of all", x.copy(0, 0, 1, 0, 3), 3);
        numbers("copy of all", x, 1, "8: 1 2 3");
        numbers("copy leaves the first sheet", x, 0, "8: 1 2 3");
        RoadBench full = new RoadBench();
        full.sheet(0, 32, 24);
        full.sheet(1, 32, 24);
        Check.due("copy of 24", full.copy(0, 0, 1, 0, 24), 24);
        Check.due("copy of 25", full.copy(0, 0, 1, 0, 25), BEYOND);
        full.sheet(2, 32, 0);
        Check.due("copy of none of none", full.copy(2, 0, 2, 0, 0), 0);
        Check.due("copy of one of none", full.copy(2, 0, 0, 0, 1), BEYOND);
        Check.due("copy of one to none", full.copy(0, 0, 2, 0, 1), BEYOND);
    }

    private static void copyWithinOneSheet() {
        RoadBench x = sheetOf(new RoadBench(), 0, 8, 1, 2, 3, 4);
        Check.due("copy one further", x.copy(0, 0, 0, 1, 3), 3);
        numbers("copy one further", x, 0, "8: 1 1 2 3");
        RoadBench y = sheetOf(new RoadBench(), 0, 8, 1, 2, 3, 4);
        Check.due("copy one back", y.copy(0, 1, 0, 0, 3), 3);
        numbers("copy one back", y, 0, "8: 2 3 4 4");
        RoadBench z = sheetOf(new RoadBench(), 0, 8, 1, 2, 3, 4);
        Check.due("copy to where it is", z.copy(0, 0, 0, 0, 4), 4);
        numbers("copy to where it is", z, 0, "8: 1 2 3 4");
    }

    private static void layOfNoSuchSheet() {
        for (int s : new int[] {-1, 4, LOW, HIGH}) {
            refused("lay(" + s + ")", false, BEYOND, x -> x.lay(s));
        }
    }

    private static void layOfAMissingSheet() {
        refused("lay(2)", false, MISSING, x -> x.lay(2));
        refused("lay(3), turned", true, MISSING, x -> x.lay(3));
    }

    private static void layOfNoPost() {
        for (int v : new int[] {3, -1, 8, LOW, HIGH}) {
            refusedAhead("lay of " + v, false, BEYOND, x -> x.lay(1), x -> sheetOf(x, 1, 32, 0, v));
            refusedAhead("lay of " + v, true, BEYOND, x -> x.lay(1), x -> sheetOf(x, 1, 32, v, 0));
            refusedAhead("lay: none is laid ahead of " + v, false, BEYOND, x -> x.lay(1),
                    x -> sheetOf(x, 1, 32, 0, 1, 1, 2, v, 0));
        }
        Check.due("lay without posts", sheetOf(new RoadBench(), 0, 8, 0, 1).lay(0), BEYOND);
        Check.due("lay of one post", sheetOf(plain(1), 0, 8, 0, 1).lay(0), BEYOND);
    }

    private static void layOfTheSame() {
        refusedAhead("lay of the same", false, SIZE, x -> x.lay(1), x -> sheetOf(x, 1, 32, 1, 1));
        refusedAhead("lay: none is laid ahead of the same", true, SIZE, x -> x.lay(1),
                x -> sheetOf(x, 1, 32, 0, 1, 1, 2, 0, 0));
        Check.due("lay: the same in two pairs is fine", sheetOf(plain(3), 0, 8, 0, 1, 1, 2).lay(0), 2);
    }

    private static void layIsFullAtTwenty() {
        refusedAhead("lay of two at 19", false, FULL, x -> x.lay(1), x -> {
            sheetOf(x, 1, 32, 0, 1, 1, 2);
            fill(x, 0, 1, 15);
        });
        RoadBench x = sheetOf(fill(plain(2), 0, 1, 18), 0, 8, 1, 0, 1, 0);
        Check.due("lay of two at 18", x.lay(0), 2);
        Check.due("lay of two at 18: roads", x.told(1), 20);
        Check.due("lay of two at 20", x.lay(0), FULL);
        x.drop(0);
        Check.due("lay of two at 19", x.lay(0), FULL);
        Check.due("lay of two at 19: none is laid", x.told(1), 19);
    }

    private static void layFindingsInOrder() {
        RoadBench x = fill(plain(2), 0, 1, 20);
        sheetOf(x, 0, 8, 0, 0, 0, 2);
        Check.due("lay: BEYOND ahead of SIZE of an earlier pair", x.lay(0), BEYOND);
        sheetOf(x, 0, 8, 0, 2, 0, 0);
        Check.due("lay: BEYOND ahead of SIZE of a later pair", x.lay(0), BEYOND);
        sheetOf(x, 0, 8, 2, 2);
        Check.due("lay: BEYOND ahead of SIZE of the pair", x.lay(0), BEYOND);
        sheetOf(x, 0, 8, 0, 1, 1, 1);
        Check.due("lay: SIZE ahead of FULL", x.lay(0), SIZE);
        sheetOf(x, 0, 8, 0, 1);
        Check.due("lay: FULL", x.lay(0), FULL);
    }

    private static void layLeavesOutTheLastAlone() {
        for (int last : new int[] {0, 1, 2, 255}) {
            RoadBench x = sheetOf(plain(2), 0, 8, 1, 0, last);
            Check.due("lay of three numbers", x.lay(0), 1);
            looks("lay of three numbers", x, "2 1 0 1 1,0,1,4 ");
        }
        RoadBench full = sheetOf(fill(plain(2), 0, 1, 19), 0, 8, 0, 1, 0);
        Check.due("lay of three numbers at 19", full.lay(0), 1);
    }

    private static void layOfNoPair() {
        RoadBench x = sheetOf(fill(plain(2), 0, 1, 20), 0, 8);
        Check.due("lay of no number of a full net", x.lay(0), 0);
        Check.due("lay of one number of a full net", sheetOf(x, 0, 8, 99).lay(0), 0);
        Check.due("lay of no number without posts", sheetOf(new RoadBench(), 0, 8).lay(0), 0);
        Check.due("lay of one number without posts", sheetOf(new RoadBench(), 0, 8, 0).lay(0), 0);
    }

    private static void layOfTwelvePairs() {
        RoadBench x = fill(plain(8), 0, 1, 8);
        x.sheet(0, 8, 24);
        for (int i = 0; i < 12; i++) {
            x.put(0, 2 * i, i % 8);
            x.put(0, 2 * i + 1, (i + 1) % 8);
        }
        Check.due("lay of twelve pairs at 8", x.lay(0), 12);
        Check.due("lay of twelve pairs: the last", x.of(19, 0), 3);
        Check.due("lay of twelve pairs: the last", x.of(19, 1), 4);
        Check.due("lay: price", x.of(19, 2), 1);
        Check.due("lay: strength", x.of(19, 3), 4);
        x.undo();
        Check.due("lay is undone whole", x.told(1), 8);
        x.road(0, 1);
        Check.due("lay of twelve pairs at 9", x.lay(0), FULL);
    }

    private static void layOfEachNumberOfBits() {
        for (int bits = 8; bits <= 32; bits *= 2) {
            RoadBench x = sheetOf(turned(8), 0, bits, 7, 0);
            Check.due("lay of " + bits + " bits", x.lay(0), 1);
            looks("lay of " + bits + " bits", x, "8 1 1 0 7,0,1,4 ");
        }
    }
}
