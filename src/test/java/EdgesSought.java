/** Boundary cases of what is sought: shares, games, patches, plans and strokes; promises 35 to 42. */
final class EdgesSought {
    private static final int LOW = Integer.MIN_VALUE;
    private static final int HIGH = Integer.MAX_VALUE;

    private EdgesSought() {
    }

    private static RolledOut laid(int... dough) {
        RolledOut x = Due.made(1);
        Due.lay(x, dough);
        return x;
    }

    private static RolledOut bare() {
        return laid(0, 0, 0, 0, 0, 0, 0, 0, 0, 0, 0, 0);
    }

    // ---- 35

    @Says(promise = 35, words = "-2 for others (1 .. 6).")
    static void otherSharesAreOther() {
        RolledOut x = new RolledOut();
        for (int hands : new int[] {0, 7, -1, LOW, HIGH}) {
            Due.is("shared(" + hands + ", NONE)", x.shared(hands, -1), -2);
            Due.is("shared(" + hands + ", 0)", x.shared(hands, 0), -2);
        }
        for (int hands = 1; hands <= 6; hands++) {
            for (int i : new int[] {-2, hands, hands + 1, LOW, HIGH}) {
                Due.is("shared(" + hands + ", " + i + ")", x.shared(hands, i), -2);
            }
        }
    }

    private static void shared(RolledOut x, int most, int... starts) {
        Due.is("the most of one", x.shared(starts.length, -1), most);
        for (int i = 0; i < starts.length; i++) {
            Due.is("part " + i + " of " + starts.length, x.shared(starts.length, i), starts[i]);
        }
    }

    @Says(promise = 35, words = "the sheet in so many (1 .. 6) parts side by side, one CELL at least each")
    static void fromOneToSixParts() {
        shared(new RolledOut(), 240, 0);
        shared(new RolledOut(), 120, 0, 6);
        shared(new RolledOut(), 80, 0, 4, 8);
        shared(new RolledOut(), 60, 0, 3, 6, 9);
        shared(new RolledOut(), 40, 0, 2, 4, 6, 8, 10);
        shared(laid(0, 0, 0, 0, 0, 0, 0, 0, 0, 0, 0, 9), 9, 0, 1, 2, 3, 4, 5);
        shared(laid(0, 0, 0, 0, 0, 0, 0, 9, 9, 9, 9, 9), 9, 0, 1, 8, 9, 10, 11);
        shared(laid(9, 0, 0, 0, 0, 0, 0, 9, 9, 9, 9, 9), 9, 0, 1, 8, 9, 10, 11);
        shared(laid(9, 9, 9, 9, 9, 0, 0, 0, 0, 0, 0, 0), 9, 0, 1, 2, 3, 4, 5);
        shared(bare(), 0, 0, 1, 2, 3, 4, 5);
    }

    @Says(promise = 35, words = "of like ones the first part of fewest CELLS, then the next, ..")
    static void ofLikeSharesTheFewestFirst() {
        shared(new RolledOut(), 60, 0, 1, 3, 6, 9);
        shared(laid(0, 0, 6, 0, 0, 6, 0, 0, 0, 0, 0, 0), 6, 0, 3);
        shared(laid(0, 0, 6, 0, 0, 6, 0, 0, 0, 0, 0, 0), 6, 0, 1, 3);
        shared(laid(9, 0, 0, 0, 0, 0, 0, 0, 0, 0, 0, 0), 9, 0, 1, 2, 3);
        shared(laid(9, 1, 1, 1, 1, 1, 1, 1, 1, 1, 1, 1), 10, 0, 2);
        shared(laid(1, 1, 1, 9, 1, 1, 1, 1, 1, 9, 1, 1), 12, 0, 4, 8);
    }

    // ---- 36, 37

    @Says(promise = 36, words = "A GAME from both ends. -9999 for others.")
    static void otherGamesAreNone() {
        RolledOut x = new RolledOut();
        int[] left = {1, 11, -1, 0, -1, 12, 12, LOW, HIGH, LOW};
        int[] right = {0, 0, 3, 12, 12, 12, 11, 3, HIGH, HIGH};
        for (int i = 0; i < left.length; i++) {
            Due.is("ends(" + left[i] + ", " + right[i] + ")", x.ends(left[i], right[i]), -9999);
        }
    }

    @Says(promise = 36, words = "of CELLS a .. b (a no more than b)")
    static void oneCellAndAllCellsAreAGame() {
        RolledOut x = new RolledOut();
        x.dough(0, 7);
        x.dough(11, 9);
        Due.is("ends(0, 0)", x.ends(0, 0), 7);
        Due.is("ends(11, 11)", x.ends(11, 11), 9);
        Due.is("ends(5, 5)", x.ends(5, 5), 20);
        Due.is("flat, even", x.ends(1, 10), 0);
        Due.is("flat, odd", x.ends(1, 9), 20);
        Due.is("of all", new RolledOut().ends(0, 11), 0);
        Due.is("bare", bare().ends(0, 11), 0);
    }

    @Says(promise = 36, words = "each wants as much as can be more than the other one: how much more the one who begins has")
    static void theOneWhoBeginsMayHaveLess() {
        RolledOut x = laid(0, 999, 0, 2, 3, 9, 1, 2);
        Due.is("less", x.ends(0, 2), -999);
        Due.is("two", x.ends(1, 2), 999);
        Due.is("three", x.ends(4, 6), -5);
        Due.is("four", x.ends(4, 7), 7);
    }

    /** How much more the one who begins has: each way tried. */
    private static int more(int[] dough, int a, int b) {
        if (a > b) {
            return 0;
        }
        return Math.max(dough[a] - more(dough, a + 1, b), dough[b] - more(dough, a, b - 1));
    }

    @Says(promise = 37, words = "two in turn take the left or the right one with its DOUGH")
    static void gamesOfAllLengths() {
        int[] dough = {7, 3, 19, 4, 0, 12, 12, 1, 30, 8, 2, 6};
        RolledOut x = laid(dough);
        for (int a = 0; a < 12; a++) {
            for (int b = a; b < 12; b++) {
                int left = dough[a] - more(dough, a + 1, b);
                int right = dough[b] - more(dough, a, b - 1);
                Due.is("ends(" + a + ", " + b + ")", x.ends(a, b), Math.max(left, right));
                Due.is("endsFirst(" + a + ", " + b + ")", x.endsFirst(a, b), left >= right ? a : b);
            }
        }
    }

    @Says(promise = 37, words = "The CELL taken first. NONE for others.")
    static void noCellIsTakenInOtherGames() {
        RolledOut x = new RolledOut();
        int[] left = {1, 11, -1, 0, -1, 12, 12, LOW, HIGH, LOW};
        int[] right = {0, 0, 3, 12, 12, 12, 11, 3, HIGH, HIGH};
        for (int i = 0; i < left.length; i++) {
            Due.is("endsFirst(" + left[i] + ", " + right[i] + ")", x.endsFirst(left[i], right[i]), -1);
        }
        Due.is("one cell", x.endsFirst(0, 0), 0);
        Due.is("the last", x.endsFirst(11, 11), 11);
    }

    @Says(promise = 37, words = "which it takes first (alike: the left one)")
    static void alikeTheLeftOne() {
        RolledOut x = laid(0, 999, 0, 2, 3, 9, 1, 2);
        Due.is("alike", x.endsFirst(0, 2), 0);
        Due.is("alike but for the dough", x.endsFirst(4, 6), 4);
        Due.is("the left one", x.endsFirst(1, 2), 1);
        Due.is("the right one", x.endsFirst(4, 5), 5);
        Due.is("the right one, with less", x.endsFirst(4, 7), 7);
        Due.is("flat", new RolledOut().endsFirst(0, 11), 0);
        Due.is("flat, two", new RolledOut().endsFirst(10, 11), 10);
    }

    // ---- 38

    private static RolledOut torn(int... cells) {
        RolledOut x = Due.made(1);
        for (int cell : cells) {
            x.dough(cell, 1);
            x.stroke(0, cell, true);
        }
        return x;
    }

    @Says(promise = 38, words = "PATCHES. NONE for others (1 .. 6).")
    static void otherLengthsAreNone() {
        RolledOut x = torn(3);
        for (int other : new int[] {0, 7, -1, LOW, HIGH}) {
            Due.is("long1 " + other, x.patches(other, 2, false), -1);
            Due.is("long2 " + other, x.patches(2, other, false), -1);
            Due.is("long1 " + other, x.patches(other, 2, true), -1);
            Due.is("long2 " + other, x.patches(2, other, true), -1);
        }
        Due.is("1 and 6", x.patches(1, 6, true), 3);
        Due.is("6 and 1", x.patches(6, 1, true), 3);
        Due.is("6 and 6", x.patches(6, 6, true), 8);
        Due.is("1 and 1", x.patches(1, 1, true), 3);
    }

    @Says(promise = 38, words = "by which all TORN CELLS are covered; each costs as many as it is long and 2")
    static void noneAndAllCellsMayBeTorn() {
        Due.is("none", torn().patches(2, 3, false), 0);
        Due.is("none, cost", torn().patches(2, 3, true), 0);
        RolledOut x = torn(0, 1, 2, 3, 4, 5, 6, 7, 8, 9, 10, 11);
        Due.is("all are torn", x.is(4), 4095);
        Due.is("by 6", x.patches(6, 6, false), 2);
        Due.is("by 6, cost", x.patches(6, 6, true), 16);
        Due.is("by 1", x.patches(1, 1, false), 12);
        Due.is("by 1, cost", x.patches(1, 1, true), 36);
    }

    @Says(promise = 38, words = "(they may go over both ends, and over one another)")
    static void patchesGoOverTheEnds() {
        Due.is("cell 0", torn(0).patches(6, 6, false), 1);
        Due.is("cell 11", torn(11).patches(6, 6, false), 1);
        Due.is("both", torn(0, 11).patches(6, 6, true), 16);
        Due.is("two beside one another", torn(10, 11).patches(6, 6, true), 8);
        Due.is("seven", torn(0, 1, 2, 3, 4, 5, 6).patches(4, 4, false), 2);
        Due.is("seven at the end", torn(5, 6, 7, 8, 9, 10, 11).patches(6, 6, true), 16);
        Due.is("six apart", torn(2, 7).patches(6, 6, false), 1);
        Due.is("seven apart", torn(2, 8).patches(6, 6, false), 2);
    }

    @Says(promise = 38, words = "the fewest (cost false), the least cost together (cost true; both by themselves)")
    static void theFewestAndTheCheapestAreTheirOwn() {
        RolledOut x = torn(0, 1, 2, 3, 4, 5, 6, 7, 8, 9, 10, 11);
        Due.is("three of 5", x.patches(5, 1, false), 3);
        Due.is("two of 5 and two of 1", x.patches(5, 1, true), 20);
        RolledOut y = torn(0, 5);
        Due.is("one of 6", y.patches(1, 6, false), 1);
        Due.is("two of 1", y.patches(1, 6, true), 6);
        RolledOut z = torn(0, 2, 5, 6, 11);
        Due.is("by 1 and 3", z.patches(1, 3, false), 3);
        Due.is("by 3 and 1, cost", z.patches(3, 1, true), 13);
    }

    // ---- 39

    @Says(promise = 39, words = "-2: none, there is none such, and for others.")
    static void otherPlansAreOther() {
        RolledOut x = new RolledOut();
        Due.is("no hand", x.plan(0, 9999, -1), -2);
        x.hand(1);
        for (int hand : new int[] {-1, 1, 4, LOW, HIGH}) {
            Due.is("hand " + hand, x.plan(hand, 9999, -1), -2);
        }
        for (int most : new int[] {-1, 10000, LOW, HIGH}) {
            Due.is("most " + most, x.plan(0, most, -1), -2);
        }
        Due.lay(x, 20, 20, 0, 40, 0);
        Due.is("one stroke", x.plan(0, 39, -1), 1);
        for (int i : new int[] {1, 2, 3, -2, LOW, HIGH}) {
            Due.is("i " + i, x.plan(0, 39, i), -2);
        }
    }

    @Says(promise = 39, words = "and none has more DOUGH than most (0 .. 9999)")
    static void mostIsFrom0To9999() {
        RolledOut x = new RolledOut();
        x.hand(1);
        Due.is("9999", x.plan(0, 9999, -1), 0);
        Due.is("just as much", x.plan(0, 20, -1), 0);
        Due.is("one less", x.plan(0, 19, -1), -2);
        Due.is("0", x.plan(0, 0, -1), -2);
        Due.is("0 of a bare sheet", bare().plan(0, 0, -1), 0);
    }

    @Says(promise = 39, words = "(0: it is so)")
    static void aPlanOfNoStrokesHasNone() {
        RolledOut x = Due.made(1);
        Due.is("how many", x.plan(0, 20, -1), 0);
        Due.is("the first", x.plan(0, 20, 0), -2);
        Due.is("nothing is done", x.about(4), 0);
    }

    @Says(promise = 39, words = "the fewest strokes (3 at most), each of which can be")
    static void threeStrokesAreTheMost() {
        RolledOut x = laid(0, 40, 0, 10, 40, 0, 0, 0, 40, 0, 0, 0);
        Due.is("three", x.plan(0, 20, -1), 3);
        int[] strokes = {2, 9, 16};
        for (int i = 0; i < 3; i++) {
            Due.is("stroke " + i, x.plan(0, 20, i), strokes[i]);
        }
        Due.is("no fourth", x.plan(0, 20, 3), -2);
        x.dough(10, 40);
        Due.is("four", x.plan(0, 20, -1), -2);
        Due.is("none of it", x.plan(0, 20, 0), -2);
        Due.row(x, 0, 40, 0, 10, 40, 0, 0, 0, 40, 0, 40, 0);
        Due.is("nothing is written", x.book(-1, 0), 0);
    }

    @Says(promise = 39, words = "by which no CELL is TORN that isn't now")
    static void aPlanTearsNoCell() {
        RolledOut x = laid(6, 0, 0, 0, 0, 0, 0, 0, 0, 0, 0, 0);
        Due.is("just not torn", x.plan(0, 3, -1), 1);
        Due.is("over the edge", x.plan(0, 3, 0), 0);
        x.dough(0, 5);
        Due.is("5 keeps 3", x.plan(0, 4, -1), 1);
        x.dough(0, 4);
        Due.is("it would tear", x.plan(0, 3, -1), -2);
        x.dough(0, 1);
        x.stroke(0, 0, true);
        x.dough(0, 4);
        Due.is("it is torn", x.is(4), 1);
        Due.is("one that is torn may be stroked", x.plan(0, 3, -1), 1);
        Due.is("which", x.plan(0, 3, 0), 0);
    }

    @Says(promise = 39, words = "of like ones the lowest first stroke (twice the CELL, and 1 if to the right), then the next, ..")
    static void ofLikePlansTheLowest() {
        RolledOut x = Due.made(1);
        Due.lay(x, 0, 0, 0, 0, 0, 30, 0, 0, 0, 0, 0, 0);
        Due.is("one stroke, to either side", x.plan(0, 15, -1), 1);
        Due.is("to the left", x.plan(0, 15, 0), 10);
        x.dough(4, 1);
        Due.is("to the right alone", x.plan(0, 15, 0), 11);
        Due.lay(x, 0, 0, 30, 0, 0, 0, 0, 0, 30, 0, 0, 0);
        Due.is("two strokes", x.plan(0, 15, -1), 2);
        Due.is("the lower first", x.plan(0, 15, 0), 4);
        Due.is("then the other", x.plan(0, 15, 1), 16);
        Due.lay(x, 0, 0, 0, 0, 0, 0, 0, 0, 0, 0, 0, 30);
        Due.is("the last cell", x.plan(0, 15, 0), 22);
        x.dough(10, 1);
        Due.is("over the right edge", x.plan(0, 15, 0), 23);
    }

    @Says(promise = 39, words = "by which no CELL is TORN that isn't now, and none has more DOUGH than most")
    static void betweenTheStrokesThereMayBeMore() {
        RolledOut x = laid(0, 0, 0, 0, 15, 40, 15, 0, 0, 0, 0, 0);
        Due.is("two strokes", x.plan(0, 20, -1), 2);
        Due.is("5 to the left", x.plan(0, 20, 0), 10);
        Due.is("4 to the left", x.plan(0, 20, 1), 8);
    }

    @Says(promise = 39, words = "the fewest strokes (3 at most)")
    static void aStrokeElsewhereMayHelp() {
        RolledOut x = Due.ruled("moves if sheet 0=19 and sheet 11=4 then 15 else 1 end;");
        Due.lay(x, 20, 10, 20, 20, 20, 30, 5, 5, 5, 5, 5, 5);
        Due.is("three strokes", x.plan(0, 20, -1), 3);
        int[] strokes = {0, 22, 11};
        for (int i = 0; i < 3; i++) {
            Due.is("stroke " + i, x.plan(0, 20, i), strokes[i]);
        }
    }

    // ---- 40

    @Says(promise = 40, words = "BEST STROKE. NONE: none, and for others.")
    static void noStrokeIsBest() {
        RolledOut x = new RolledOut();
        Due.is("no hand", x.best(0), -1);
        x.hand(1);
        for (int hand : new int[] {-1, 1, 4, LOW, HIGH}) {
            Due.is("best(" + hand + ")", x.best(hand), -1);
        }
        Due.is("a bare sheet", bare().best(0), -1);
        x = bare();
        x.dough(11, 1);
        Due.is("the one that can be", x.best(0), 22);
    }

    @Says(promise = 40, words = "by which the most DOUGH of a CELL is least then; of like ones the lowest; none.")
    static void ofLikeStrokesTheLowest() {
        RolledOut x = laid(20, 20, 20, 20, 20, 20, 20, 60, 20, 20, 20, 20);
        Due.is("the thickest, to the left", x.best(0), 14);
        x.dough(6, 21);
        Due.is("to the right", x.best(0), 15);
        x.dough(8, 21);
        Due.is("alike", x.best(0), 14);
        Due.is("over the left edge", laid().best(0), 0);
        Due.is("over the right edge", laid(0, 0, 0, 0, 0, 0, 0, 0, 0, 0, 9, 9).best(0), 20);
        RolledOut y = Due.ruled("moves 0;tears 0;");
        y.dough(0, 0);
        Due.is("the lowest that can be", y.best(0), 2);
        Due.is("nothing is done", y.about(4), 0);
    }

    // ---- 41

    @Says(promise = 41, words = "(first true; NONE: none). -2 for others.")
    static void othersHaveNoWays() {
        RolledOut x = new RolledOut();
        Due.is("no hand", x.which(0, false), -2);
        Due.is("no hand", x.which(0, true), -2);
        x.hand(1);
        for (int hand : new int[] {-1, 1, 4, LOW, HIGH}) {
            Due.is("hand " + hand, x.which(hand, false), -2);
            Due.is("hand " + hand, x.which(hand, true), -2);
        }
        Due.is("no way", x.which(0, false), 0);
        Due.is("no first", x.which(0, true), -1);
    }

    @Says(promise = 41, words = "WHICH STROKES: one or two strokes of a HAND")
    static void oneAndTwoStrokesButNotThree() {
        RolledOut x = Due.made(1);
        x.stroke(0, 4, true);
        Due.is("one", x.which(0, false), 1);
        Due.is("it", x.which(0, true), 9);
        x.stroke(0, 7, false);
        Due.is("two, in both orders", x.which(0, false), 2);
        Due.is("the lowest", x.which(0, true), 9);
        x.stroke(0, 1, false);
        Due.is("three", x.which(0, false), 0);
        Due.is("none", x.which(0, true), -1);
    }

    @Says(promise = 41, words = "WHICH STROKES: one or two strokes of a HAND")
    static void eachTwoStrokesApartAreTwoWays() {
        for (int one = 0; one < 24; one++) {
            for (int other = one + 1; other < 24; other++) {
                if (Math.abs(one / 2 - other / 2) > 2) {
                    RolledOut x = Due.made(1);
                    x.stroke(0, other / 2, other % 2 == 1);
                    Due.is("one", x.which(0, true), other);
                    x.stroke(0, one / 2, one % 2 == 1);
                    Due.is("both, of " + one + " and " + other, x.which(0, false), 2);
                    Due.is("the lowest", x.which(0, true), one);
                }
            }
        }
    }

    @Says(promise = 41, words = "of the ways those of one stroke first, then the lowest first stroke: it")
    static void aWayOfOneStrokeIsFirst() {
        RolledOut x = Due.ruled("moves if cell=0 then 0 else 5 end;tears 0;");
        x.stroke(0, 5, true);
        Due.is("one, and one with a stroke of nothing", x.which(0, false), 5);
        Due.is("the one", x.which(0, true), 11);
        RolledOut y = Due.ruled("moves 0;tears 0;");
        Due.is("all of nothing", y.which(0, false), 24 + 24 * 24);
        Due.is("the lowest", y.which(0, true), 0);
    }

    @Says(promise = 41, words = "one or two strokes of a HAND, each of which can be, from THE IMAGE on")
    static void strokesFromCellsWithDoughAlone() {
        RolledOut x = Due.ruled("moves 0;tears 0;");
        x.dough(0, 0);
        x.dough(11, 0);
        Due.is("the image had more", x.which(0, false), 0);
        x.image();
        Due.is("from ten cells", x.which(0, false), 20 + 20 * 20);
        Due.is("the lowest", x.which(0, true), 2);
        RolledOut y = Due.ruled("moves dough;tears 0;");
        y.dough(5, 0);
        y.image();
        y.stroke(0, 4, true);
        y.stroke(0, 5, true);
        Due.is("the second can be behind the first", y.which(0, false), 1);
        Due.is("the first of it", y.which(0, true), 9);
    }

    @Says(promise = 41, words = "by which DOUGH of all CELLS, TORN CELLS and EDGE come to be as now")
    static void tornCellsAndTheEdgeAreAsNow() {
        RolledOut x = Due.ruled("tears 99;");
        x.stroke(0, 5, true);
        Due.is("torn", x.which(0, false), 1);
        x.by(-1);
        Due.is("not torn by it", x.which(0, false), 0);
        RolledOut y = Due.made(1);
        y.stroke(0, 0, false);
        Due.is("over the edge", y.which(0, false), 1);
        Due.is("it", y.which(0, true), 0);
        y.trim();
        Due.is("nothing hangs over", y.which(0, false), 0);
        y.undo();
        y.dough(0, 11);
        Due.is("the dough isn't as now", y.which(0, false), 0);
        y.dough(0, 10);
        y.dough(11, 21);
        Due.is("nor of another cell", y.which(0, false), 0);
    }

    @Says(promise = 41, words = "from THE IMAGE on (TURN being as now)")
    static void theTurnIsAsNow() {
        RolledOut x = new RolledOut();
        x.roll(4);
        x.hand(1);
        Due.rule(x, "moves turn+1;");
        Due.is("stroke", x.stroke(0, 6, true), 5);
        Due.is("as in turn 4", x.which(0, false), 1);
        Due.is("it", x.which(0, true), 13);
        x.by(-1);
        x.dough(6, 20);
        x.dough(7, 20);
        x.image();
        x.by(0);
        x.stroke(0, 6, true);
        Due.is("with the image of turn 4", x.which(0, false), 1);
    }

    // ---- 42

    @Says(promise = 42, words = "the upper (low false), the lower one (low true). NONE for others.")
    static void othersAreNotLikely() {
        RolledOut x = new RolledOut();
        Due.is("no hand", x.likely(0, false), -1);
        Due.is("no hand", x.likely(0, true), -1);
        x.hand(1);
        for (int hand : new int[] {-1, 1, 4, LOW, HIGH}) {
            Due.is("hand " + hand, x.likely(hand, false), -1);
            Due.is("hand " + hand, x.likely(hand, true), -1);
        }
    }

    private static void likely(RolledOut x, int upper, int lower) {
        Due.is("the upper", x.likely(0, false), upper);
        Due.is("the lower", x.likely(0, true), lower);
    }

    @Says(promise = 42, words = "in lowest terms (one that can't be tears none)")
    static void inLowestTerms() {
        likely(Due.made(1), 0, 1);
        RolledOut x = Due.ruled("moves dough;tears 1;");
        int[] upper = {1, 11, 5, 3, 2, 7, 1, 5, 1, 1, 1, 1, 0};
        int[] lower = {1, 12, 6, 4, 3, 12, 2, 12, 3, 4, 6, 12, 1};
        for (int bare = 0; bare <= 12; bare++) {
            likely(x, upper[bare], lower[bare]);
            x.dough(bare, 0);
        }
        likely(Due.ruled("moves if cell=3 and right=1 then dough else 0 end;tears 1;"), 1, 24);
        likely(Due.ruled("moves if cell=3 and right=1 then 0 else dough end;tears 1;"), 23, 24);
        likely(Due.ruled("moves if cell=3 and right=1 or cell<4 and right=0 then dough else 0 end;tears 1;"), 5, 24);
        likely(Due.ruled("moves if cell=3 and right=1 or cell<8 and right=0 then dough else 0 end;tears 1;"), 3, 8);
    }

    @Says(promise = 42, words = "tears a CELL that isn't TORN")
    static void aTornCellDoesNotTear() {
        RolledOut x = Due.ruled("tears 99;");
        likely(x, 1, 1);
        x.stroke(0, 11, true);
        likely(x, 11, 12);
        for (int cell = 0; cell < 11; cell++) {
            x.stroke(0, cell, false);
        }
        Due.is("all are torn", x.is(4), 4095);
        likely(x, 0, 1);
    }

    @Says(promise = 42, words = "Is its DOUGH less than tears says then (of it as it is then)")
    static void likelyAsksTearsBehindTheStroke() {
        likely(Due.ruled("tears if dough=10 and sheet cell=10 then 11 else 0 end;"), 1, 1);
        likely(Due.ruled("tears if dough=20 then 99 else 0 end;"), 0, 1);
        RolledOut x = Due.ruled("tears if dough=10 then 11 else 0 end;");
        Due.is("a plan asks it too", x.plan(0, 19, -1), -2);
        Due.lay(x, 0, 0, 20, 0, 0, 0, 0, 0, 0, 0, 0, 0);
        Due.is("it would tear", x.plan(0, 19, -1), -2);
        x.dough(2, 22);
        Due.is("it would not", x.plan(0, 19, -1), 1);
    }
}
