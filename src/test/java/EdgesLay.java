/** Boundary cases of how the sheet lies: promises 24 to 34, 43 and 44. */
final class EdgesLay {
    private static final int LOW = Integer.MIN_VALUE;
    private static final int HIGH = Integer.MAX_VALUE;

    private EdgesLay() {
    }

    private static RolledOut laid(int... dough) {
        RolledOut x = new RolledOut();
        Due.lay(x, dough);
        return x;
    }

    private static RolledOut bare() {
        return laid(0, 0, 0, 0, 0, 0, 0, 0, 0, 0, 0, 0);
    }

    private static RolledOut rising() {
        return laid(0, 1, 2, 3, 4, 5, 6, 7, 8, 9, 10, 999);
    }

    private static RolledOut falling() {
        return laid(999, 10, 9, 8, 7, 6, 5, 4, 3, 2, 1, 0);
    }

    // ---- 24

    @Says(promise = 24, words = "how much water stays on the sheet, each CELL as high as its DOUGH, water running off at both ends")
    static void nothingStaysWithoutTwoWalls() {
        Due.is("flat", new RolledOut().lake(), 0);
        Due.is("bare", bare().lake(), 0);
        Due.is("rising", rising().lake(), 0);
        Due.is("falling", falling().lake(), 0);
        Due.is("a hill", laid(0, 1, 2, 3, 9, 9, 9, 3, 2, 1, 0, 0).lake(), 0);
        Due.is("a wall at the left end", laid(9, 0, 0, 0, 0, 0, 0, 0, 0, 0, 0, 0).lake(), 0);
        Due.is("a wall at the right end", laid(0, 0, 0, 0, 0, 0, 0, 0, 0, 0, 0, 9).lake(), 0);
    }

    @Says(promise = 24, words = "water running off at both ends")
    static void theEndsAreWallsAsHighAsTheirDough() {
        Due.is("from end to end", laid(999, 0, 0, 0, 0, 0, 0, 0, 0, 0, 0, 999).lake(), 9990);
        Due.is("the lower wall at the right", laid(9, 0, 0, 0, 0, 0, 0, 0, 0, 0, 0, 5).lake(), 50);
        Due.is("the lower wall at the left", laid(1, 0, 0, 0, 0, 0, 0, 0, 0, 0, 0, 5).lake(), 10);
        Due.is("a wall between", laid(5, 0, 9, 0, 5, 0, 0, 0, 0, 0, 0, 0).lake(), 10);
        Due.is("a low wall between", laid(5, 0, 3, 0, 5, 0, 0, 0, 0, 0, 0, 1).lake(), 5 + 2 + 5 + 6);
        Due.is("a cell at each end", laid(5, 4, 5, 5, 5, 5, 5, 5, 5, 5, 4, 5).lake(), 2);
    }

    // ---- 25

    @Says(promise = 25, words = "2 how many. NONE for others.")
    static void otherGlazesAreNone() {
        RolledOut x = new RolledOut();
        for (int what : new int[] {-1, 3, LOW, HIGH}) {
            Due.is("glaze(" + what + ")", x.glaze(what), -1);
        }
    }

    private static void glaze(RolledOut x, int much, int first, int many) {
        Due.is("how much", x.glaze(0), much);
        Due.is("the first", x.glaze(1), first);
        Due.is("how many", x.glaze(2), many);
    }

    @Says(promise = 25, words = "the greatest product of how many CELLS side by side and the least DOUGH of these")
    static void oneCellAndAllCellsMayBeGlazed() {
        glaze(new RolledOut(), 240, 0, 12);
        glaze(laid(0, 0, 0, 0, 0, 0, 0, 0, 0, 0, 0, 9), 9, 11, 1);
        glaze(laid(9, 0, 0, 0, 0, 0, 0, 0, 0, 0, 0, 0), 9, 0, 1);
        glaze(laid(999, 999, 999, 999, 999, 999, 999, 999, 999, 999, 999, 999), 11988, 0, 12);
        glaze(laid(0, 0, 0, 0, 0, 0, 0, 0, 0, 0, 5, 5), 10, 10, 2);
    }

    @Says(promise = 25, words = "of like ones the lowest first CELL, then the fewest (0 as well: CELL 0, 1)")
    static void ofLikeGlazesTheLowestThenTheFewest() {
        glaze(laid(0, 6, 6, 0, 4, 4, 4, 0, 12, 0, 3, 0), 12, 1, 2);
        glaze(laid(0, 0, 4, 4, 4, 0, 6, 6, 0, 12, 0, 0), 12, 2, 3);
        glaze(laid(6, 3, 0, 0, 0, 0, 0, 0, 0, 0, 0, 6), 6, 0, 1);
        glaze(laid(12, 6, 4, 3, 0, 0, 0, 0, 0, 0, 0, 0), 12, 0, 1);
        glaze(laid(3, 6, 0, 0, 0, 0, 0, 0, 0, 0, 0, 0), 6, 0, 2);
    }

    @Says(promise = 25, words = "(0 as well: CELL 0, 1)")
    static void aBareSheetIsGlazedByNothing() {
        glaze(bare(), 0, 0, 1);
    }

    // ---- 26

    private static void rise(RolledOut x, int... cells) {
        Due.is("how many", x.rise(-1), cells.length);
        for (int i = 0; i < cells.length; i++) {
            Due.is("rise(" + i + ")", x.rise(i), cells[i]);
        }
        for (int i : new int[] {cells.length, 12, -2, LOW, HIGH}) {
            Due.is("rise(" + i + ")", x.rise(i), -2);
        }
    }

    @Says(promise = 26, words = "A RISE: how many (i NONE), the i-th CELL. -2 if there is none such.")
    static void oneCellAndAllCellsMayRise() {
        rise(new RolledOut(), 0);
        rise(bare(), 0);
        rise(falling(), 0);
        rise(rising(), 0, 1, 2, 3, 4, 5, 6, 7, 8, 9, 10, 11);
    }

    @Says(promise = 26, words = "of which each has more DOUGH than the one ahead")
    static void likeOnesDoNotRise() {
        rise(laid(5, 5, 6, 6, 7, 7, 7, 7, 7, 7, 7, 7), 0, 2, 4);
        rise(laid(9, 9, 9, 9, 9, 9, 9, 9, 9, 9, 0, 1), 10, 11);
    }

    @Says(promise = 26, words = "of like ones the lowest first CELL, then the next, ..")
    static void ofLikeRisesTheLowest() {
        rise(laid(5, 1, 6, 2, 7, 3, 0, 0, 0, 0, 0, 0), 0, 2, 4);
        rise(laid(1, 5, 3, 6, 4, 7, 0, 0, 0, 0, 0, 0), 0, 1, 3, 5);
        rise(laid(1, 9, 3, 2, 4, 9, 0, 0, 0, 0, 0, 0), 0, 2, 4, 5);
        rise(laid(8, 9, 1, 2, 0, 3, 0, 0, 0, 0, 0, 0), 2, 3, 5);
    }

    // ---- 27, 28

    @Says(promise = 27, words = "how many pairs of CELLS there are, of which the left one has more DOUGH")
    static void noneAndAllPairsMayFold() {
        Due.is("flat", new RolledOut().folds(), 0);
        Due.is("rising", rising().folds(), 0);
        Due.is("falling", falling().folds(), 66);
        Due.is("the ends alone", laid(6, 5, 5, 5, 5, 5, 5, 5, 5, 5, 5, 5).folds(), 11);
        Due.is("the last", laid(5, 5, 5, 5, 5, 5, 5, 5, 5, 5, 5, 4).folds(), 11);
        Due.is("one pair", laid(5, 4, 5, 5, 5, 5, 5, 5, 5, 5, 5, 5).folds(), 1);
    }

    @Says(promise = 28, words = "CELLS (bits) with more DOUGH than each CELL beside")
    static void peaksAtTheEndsAndFlatOnes() {
        Due.is("flat", new RolledOut().peaks(), 0);
        Due.is("bare", bare().peaks(), 0);
        Due.is("rising: the right end", rising().peaks(), 1 << 11);
        Due.is("falling: the left end", falling().peaks(), 1);
        Due.is("two alike are none", laid(0, 9, 9, 0, 0, 9, 0, 0, 0, 0, 8, 8).peaks(), 32);
        Due.is("an end alike its neighbour", laid(9, 9, 0, 0, 0, 0, 0, 0, 0, 0, 1, 0).peaks(), 1 << 10);
        Due.is("each other one", laid(1, 0, 1, 0, 1, 0, 1, 0, 1, 0, 1, 0).peaks(), 0x555);
        Due.is("the other ones", laid(0, 1, 0, 1, 0, 1, 0, 1, 0, 1, 0, 1).peaks(), 0xaaa);
        Due.is("more than one of them is none", laid(5, 4, 3, 5, 6, 6, 6, 6, 6, 6, 6, 6).peaks(), 1);
    }

    // ---- 29

    @Says(promise = 29, words = "RICHEST. NONE for others (n 1 .. 12).")
    static void otherRowsAreNotRich() {
        RolledOut x = rising();
        for (int n : new int[] {0, 13, -1, LOW, HIGH}) {
            Due.is("richest(" + n + ")", x.richest(n), -1);
        }
        Due.is("richest(1)", x.richest(1), 11);
        Due.is("richest(2)", x.richest(2), 10);
        Due.is("richest(11)", x.richest(11), 1);
        Due.is("richest(12)", x.richest(12), 0);
        Due.is("falling", falling().richest(11), 0);
    }

    @Says(promise = 29, words = "the CELL from which on n CELLS side by side have most DOUGH; of like ones the lowest")
    static void ofLikeRowsTheLowest() {
        for (int n = 1; n <= 12; n++) {
            Due.is("flat " + n, new RolledOut().richest(n), 0);
            Due.is("bare " + n, bare().richest(n), 0);
        }
        RolledOut x = laid(1, 7, 2, 5, 4, 0, 0, 0, 9, 0, 0, 9);
        Due.is("richest(1)", x.richest(1), 8);
        Due.is("richest(2)", x.richest(2), 1);
        Due.is("richest(3)", x.richest(3), 1);
        Due.is("richest(4)", x.richest(4), 1);
    }

    // ---- 30

    @Says(promise = 30, words = "ISLANDS. NONE for others (0 .. 9999).")
    static void otherLevelsAreNone() {
        RolledOut x = new RolledOut();
        for (int level : new int[] {-1, 10000, LOW, HIGH}) {
            Due.is("islands(" + level + ")", x.islands(level), -1);
        }
        Due.is("islands(0)", x.islands(0), 1);
        Due.is("islands(9999)", x.islands(9999), 0);
    }

    @Says(promise = 30, words = "ISLANDS. NONE for others (0 .. 9999).")
    static void anIslandAbove9999() {
        RolledOut x = Due.ruled("moves dough;tears 0;");
        Due.read(x, "dough 999 at 0;right 0 by 0;".repeat(10));
        x.dough(1, 9);
        x.played(1);
        Due.is("of 1", x.of(1, 0), 9999);
        Due.is("islands(9998)", x.islands(9998), 1);
        Due.is("islands(9999)", x.islands(9999), 0);
        x.dough(0, 1);
        x.stroke(0, 0, true);
        Due.is("islands(9999) of 10000", x.islands(9999), 1);
    }

    @Says(promise = 30, words = "as long as can be, all of more DOUGH than a level")
    static void rowsOfMoreThanTheLevel() {
        RolledOut x = laid(5, 5, 0, 5, 6, 0, 0, 6, 6, 4, 0, 5);
        Due.is("islands(0)", x.islands(0), 4);
        Due.is("islands(3)", x.islands(3), 4);
        Due.is("islands(4)", x.islands(4), 4);
        Due.is("islands(5)", x.islands(5), 2);
        Due.is("islands(6)", x.islands(6), 0);
        Due.is("bare", bare().islands(0), 0);
        Due.is("flat, just below", new RolledOut().islands(19), 1);
        Due.is("flat, alike", new RolledOut().islands(20), 0);
        Due.is("each other one", laid(1, 0, 1, 0, 1, 0, 1, 0, 1, 0, 1, 0).islands(0), 6);
    }

    // ---- 31

    @Says(promise = 31, words = "SEEN. NONE: none, and for others.")
    static void nothingIsSeenFromOthersAndFromTheEnds() {
        RolledOut x = laid(5, 9, 5, 5, 5, 5, 5, 5, 5, 5, 9, 5);
        for (int cell : new int[] {-1, 12, LOW, HIGH}) {
            Due.is("sees(" + cell + ", true)", x.sees(cell, true), -1);
            Due.is("sees(" + cell + ", false)", x.sees(cell, false), -1);
        }
        Due.is("from 0 to the left", x.sees(0, false), -1);
        Due.is("from 11 to the right", x.sees(11, true), -1);
        Due.is("from 0 to the right", x.sees(0, true), 1);
        Due.is("from 11 to the left", x.sees(11, false), 10);
        Due.is("from 1 none", x.sees(1, true), -1);
        Due.is("from 10 none", x.sees(10, false), -1);
    }

    @Says(promise = 31, words = "the first CELL with more DOUGH than it; none")
    static void theFirstWithMore() {
        RolledOut x = laid(6, 9, 5, 5, 5, 5, 5, 5, 6, 7, 9, 6);
        Due.is("to the right over like ones", x.sees(2, true), 8);
        Due.is("to the left over like ones", x.sees(7, false), 1);
        Due.is("to the left beside", x.sees(2, false), 1);
        Due.is("the first, not the highest", x.sees(7, true), 8);
        Due.is("to the end", laid(5, 4, 4, 4, 4, 4, 4, 4, 4, 4, 4, 6).sees(0, true), 11);
        Due.is("to the other end", laid(6, 4, 4, 4, 4, 4, 4, 4, 4, 4, 4, 5).sees(11, false), 0);
        for (int cell = 0; cell < 12; cell++) {
            Due.is("flat", new RolledOut().sees(cell, true), -1);
            Due.is("flat", new RolledOut().sees(cell, false), -1);
        }
    }

    // ---- 32

    @Says(promise = 32, words = "MIDDLE. NONE for others (k 1 .. 12).")
    static void theFirstAndTheLastOfAll() {
        RolledOut x = laid(9, 8, 7, 999, 0, 5, 4, 3, 2, 1, 10, 6);
        for (int k : new int[] {0, 13, -1, LOW, HIGH}) {
            Due.is("middle(" + k + ")", x.middle(k), -1);
        }
        for (int k = 1; k <= 11; k++) {
            Due.is("middle(" + k + ")", x.middle(k), k - 1);
        }
        Due.is("middle(12)", x.middle(12), 999);
    }

    @Says(promise = 32, words = "of all CELLS the k-th least DOUGH")
    static void likeOnesCountEach() {
        RolledOut x = laid(5, 3, 5, 3, 5, 3, 9, 9, 9, 9, 9, 9);
        int[] middle = {3, 3, 3, 5, 5, 5, 9, 9, 9, 9, 9, 9};
        for (int k = 1; k <= 12; k++) {
            Due.is("middle(" + k + ")", x.middle(k), middle[k - 1]);
            Due.is("flat", new RolledOut().middle(k), 20);
            Due.is("bare", bare().middle(k), 0);
        }
    }

    // ---- 33, 34

    @Says(promise = 33, words = "(not, if DOUGH of all CELLS isn't as it was there)")
    static void moreOrLessDoughIsNotCarried() {
        RolledOut x = new RolledOut();
        x.dough(3, 21);
        Due.is("one more", x.carried(), -1);
        x.dough(3, 19);
        Due.is("one less", x.carried(), -1);
        x.dough(4, 21);
        Due.is("as much", x.carried(), 1);
        RolledOut y = Due.made(1);
        y.stroke(0, 0, false);
        Due.is("over the edge", y.carried(), -1);
        y.image();
        Due.is("the image anew", y.carried(), 0);
        y.trim();
        Due.is("the ball is not of it", y.carried(), 0);
    }

    @Says(promise = 33, words = "how much DOUGH by how many CELLS at least must have gone to come from THE IMAGE's CELLS to these")
    static void carriedBothWays() {
        RolledOut x = bare();
        x.dough(0, 999);
        x.image();
        x.dough(0, 0);
        x.dough(11, 999);
        Due.is("from end to end", x.carried(), 11 * 999);
        x.image();
        x.dough(11, 0);
        x.dough(0, 999);
        Due.is("and back", x.carried(), 11 * 999);
        Due.lay(x, 5, 0, 0, 0, 0, 5);
        x.image();
        Due.lay(x, 0, 5, 0, 0, 5, 0);
        Due.is("towards one another", x.carried(), 10);
        Due.lay(x, 0, 0, 5, 5, 0, 0);
        Due.is("meeting", x.carried(), 20);
        Due.lay(x, 4, 1, 0, 0, 1, 4);
        Due.is("a little", x.carried(), 2);
    }

    @Says(promise = 34, words = "but those from CELL 0 on one more each, as many as are left over")
    static void whatIsLeftOverGoesToTheFirstCells() {
        Due.is("flat", new RolledOut().level(), 0);
        Due.is("bare", bare().level(), 0);
        Due.is("one for cell 0", laid(1, 0, 0, 0, 0, 0, 0, 0, 0, 0, 0, 0).level(), 0);
        Due.is("one in cell 11", laid(0, 0, 0, 0, 0, 0, 0, 0, 0, 0, 0, 1).level(), 11);
        Due.is("eleven left over", laid(1, 1, 1, 1, 1, 1, 1, 1, 1, 1, 1, 0).level(), 0);
        Due.is("eleven, one of them at the end", laid(0, 1, 1, 1, 1, 1, 1, 1, 1, 1, 1, 1).level(), 11);
        Due.is("thirteen", laid(2, 1, 1, 1, 1, 1, 1, 1, 1, 1, 1, 1).level(), 0);
        Due.is("thirteen at the end", laid(1, 1, 1, 1, 1, 1, 1, 1, 1, 1, 1, 2).level(), 11);
        Due.is("twelve in cell 0", laid(12, 0, 0, 0, 0, 0, 0, 0, 0, 0, 0, 0).level(), 66);
        Due.is("twelve in cell 11", laid(0, 0, 0, 0, 0, 0, 0, 0, 0, 0, 0, 12).level(), 66);
        Due.is("not of the image", laid(20, 20, 20, 20, 20, 20, 20, 20, 20, 20, 20, 32).level(), 66);
    }

    // ---- 43, 44

    @Says(promise = 43, words = "the CELL of least, of most DOUGH; of like ones the lowest.")
    static void theLowestOfLikeThinOnes() {
        Due.is("flat", new RolledOut().thin(), 0);
        Due.is("bare", bare().thin(), 0);
        Due.is("rising", rising().thin(), 0);
        Due.is("falling", falling().thin(), 11);
        Due.is("like ones", laid(5, 4, 3, 4, 3, 5, 5, 5, 5, 5, 5, 3).thin(), 2);
        for (int cell = 0; cell < 12; cell++) {
            RolledOut x = new RolledOut();
            x.dough(cell, 19);
            Due.is("cell " + cell, x.thin(), cell);
        }
    }

    @Says(promise = 44, words = "the CELL of least, of most DOUGH; of like ones the lowest.")
    static void theLowestOfLikeThickOnes() {
        Due.is("flat", new RolledOut().thick(), 0);
        Due.is("bare", bare().thick(), 0);
        Due.is("rising", rising().thick(), 11);
        Due.is("falling", falling().thick(), 0);
        Due.is("like ones", laid(5, 6, 7, 6, 7, 5, 5, 5, 5, 5, 5, 7).thick(), 2);
        for (int cell = 0; cell < 12; cell++) {
            RolledOut x = new RolledOut();
            x.dough(cell, 21);
            Due.is("cell " + cell, x.thick(), cell);
        }
    }
}
