/** Boundary cases of what is done: strokes, trims, patches, turns, scripts and what is taken back; promises 10 to 16. */
final class EdgesDone {
    private static final int LOW = Integer.MIN_VALUE;
    private static final int HIGH = Integer.MAX_VALUE;

    private EdgesDone() {
    }

    /** One hand; cells 0 and 11 torn with 2 each, and so much in the ball. */
    private static RolledOut trimmed(int ball) {
        RolledOut x = Due.ruled("moves dough-2;");
        x.dough(0, 2 + ball / 2);
        x.dough(11, 2 + ball - ball / 2);
        x.stroke(0, 0, false);
        x.stroke(0, 11, true);
        Due.is("trim()", x.trim(), ball);
        Due.is("torn", x.is(4), 1 | 1 << 11);
        return x;
    }

    // ---- 10

    @Says(promise = 10, words = "STROKED: how much was moved. NONE, if it can't be, and for others.")
    static void strokesOfOthersAreNone() {
        RolledOut x = new RolledOut();
        Due.is("no hand", x.stroke(0, 0, true), -1);
        x.hand(1);
        for (int hand : new int[] {-1, 1, 2, 3, 4, LOW, HIGH}) {
            Due.is("hand " + hand, x.stroke(hand, 5, true), -1);
        }
        for (int cell : new int[] {-1, 12, LOW, HIGH}) {
            Due.is("cell " + cell, x.stroke(0, cell, true), -1);
            Due.is("cell " + cell, x.stroke(0, cell, false), -1);
        }
        Due.row(x, 20, 20, 20, 20, 20, 20, 20, 20, 20, 20, 20, 20);
        Due.is("nothing is written", x.book(-1, 0), 0);
        Due.is("no step", x.about(4), 0);
    }

    @Says(promise = 10, words = "by a HAND from a CELL that has DOUGH")
    static void aCellWithoutDoughIsNotStroked() {
        RolledOut x = Due.ruled("moves 5;");
        x.dough(3, 0);
        Due.is("to the right", x.stroke(0, 3, true), -1);
        Due.is("to the left", x.stroke(0, 3, false), -1);
        Due.is("nothing is written", x.book(-1, 0), 0);
        Due.is("no step", x.about(4), 0);
        Due.is("it doesn't tear", x.is(4), 0);
        x.dough(3, 1);
        Due.is("with 1", x.stroke(0, 3, true), 1);
    }

    @Says(promise = 10, words = "without: half of it, cut.")
    static void aStrokeThatMovesNothingIsAStroke() {
        RolledOut x = Due.made(1);
        x.dough(3, 1);
        Due.is("half of 1", x.stroke(0, 3, true), 0);
        Due.is("it tears", x.is(4), 8);
        Due.is("it is written", x.book(-1, 0), 1);
        Due.is("how much", x.book(0, 3), 0);
        Due.is("it is a step", x.about(4), 1);
    }

    @Says(promise = 10, words = "(from 0 to the left, from 11 to the right: to EDGE)")
    static void overTheEdgeAtBothEnds() {
        RolledOut x = Due.ruled("moves 7;");
        Due.is("from 0 to the left", x.stroke(0, 0, false), 7);
        Due.is("edge", x.is(3), 7);
        Due.row(x, 13, 20, 20, 20, 20, 20, 20, 20, 20, 20, 20, 20);
        Due.is("from 11 to the right", x.stroke(0, 11, true), 7);
        Due.is("edge", x.is(3), 14);
        Due.row(x, 13, 20, 20, 20, 20, 20, 20, 20, 20, 20, 20, 13);
        Due.is("from 0 to the right", x.stroke(0, 0, true), 7);
        Due.is("from 11 to the left", x.stroke(0, 11, false), 7);
        Due.is("edge", x.is(3), 14);
        Due.row(x, 6, 27, 20, 20, 20, 20, 20, 20, 20, 20, 27, 6);
    }

    @Says(promise = 10, words = "is twice that more than the DOUGH the CELL had, its TOWNS go along")
    static void halfCarriesNoTownAndMoreDoes() {
        int[] dough = {10, 10, 11, 11, 1};
        int[] moved = {5, 6, 5, 6, 1};
        for (int i = 0; i < dough.length; i++) {
            RolledOut x = Due.ruled("moves " + moved[i] + ";");
            x.town(6);
            x.town(6);
            x.town(7);
            x.dough(6, dough[i]);
            boolean go = 2 * moved[i] > dough[i];
            x.stroke(0, 6, true);
            Due.is(moved[i] + " of " + dough[i], x.of(7, 2), go ? 7 : 4);
            Due.is("left behind", x.of(6, 2), go ? 0 : 3);
        }
    }

    @Says(promise = 10, words = "its TOWNS go along (over the edge: they fell)")
    static void townsFallOverBothEnds() {
        RolledOut x = Due.ruled("moves 11;");
        x.town(0);
        x.town(11);
        x.town(0);
        x.stroke(0, 0, false);
        Due.is("ofTown(0)", x.ofTown(0), -1);
        Due.is("ofTown(1)", x.ofTown(1), 11);
        Due.is("ofTown(2)", x.ofTown(2), -1);
        x.stroke(0, 11, true);
        Due.is("ofTown(1)", x.ofTown(1), -1);
        Due.is("fallen()", x.fallen(), 7);
        Due.is("fallen ones are in no cell", x.of(0, 2) | x.of(11, 2), 0);
        x.dough(0, 20);
        x.stroke(0, 0, true);
        Due.is("they don't come back", x.fallen(), 7);
    }

    @Says(promise = 10, words = "its TOWNS go along (over the edge: they fell)")
    static void halfOverTheEdgeFellsNoTown() {
        RolledOut x = Due.made(1);
        x.town(0);
        x.town(11);
        x.stroke(0, 0, false);
        x.stroke(0, 11, true);
        Due.is("fallen()", x.fallen(), 0);
        Due.is("ofTown(0)", x.ofTown(0), 0);
        Due.is("ofTown(1)", x.ofTown(1), 11);
    }

    @Says(promise = 10, words = "Is its DOUGH less than tears says then (of it as it is then): it is TORN.")
    static void asMuchAsTearsSaysIsNotTorn() {
        RolledOut x = Due.made(1);
        int[] dough = {6, 5, 4};
        int[] torn = {0, 0, 1};
        for (int i = 0; i < 3; i++) {
            x.dough(6, dough[i]);
            x.stroke(0, 6, true);
            Due.is("with " + (dough[i] - dough[i] / 2) + " left", x.of(6, 1), torn[i]);
        }
        RolledOut y = Due.ruled("moves dough;tears 0;");
        y.stroke(0, 6, true);
        Due.is("nothing isn't less than 0", y.is(4), 0);
    }

    @Says(promise = 10, words = "(of it as it is then)")
    static void tearsIsAskedBehindTheMove() {
        RolledOut x = Due.ruled("moves 5;tears if dough=15 and sheet 5=15 and sheet 6=25 and cell=5 then 16 else 0 end;");
        x.stroke(0, 5, true);
        Due.is("torn", x.is(4), 32);
        RolledOut y = Due.ruled("moves 5;tears if torn=0 then 16 else 0 end;");
        y.stroke(0, 5, true);
        Due.is("not torn ahead of it", y.is(4), 32);
        RolledOut z = Due.ruled("moves 5;tears turn*16;");
        z.stroke(0, 5, true);
        Due.is("in turn 0", z.is(4), 0);
        z.roll(1);
        z.stroke(0, 8, true);
        Due.is("in turn 1", z.of(8, 1), 1);
    }

    @Says(promise = 10, words = "Is its DOUGH less than tears says then")
    static void theCellThatIsStrokedTearsAlone() {
        RolledOut x = Due.ruled("moves 1;tears 9;");
        Due.lay(x, 1, 1, 1, 20, 1);
        x.stroke(0, 3, true);
        Due.is("not the one beside", x.is(4), 0);
        x.stroke(0, 2, true);
        Due.is("the one stroked", x.is(4), 4);
        x.dough(2, 500);
        x.stroke(0, 2, true);
        Due.is("torn it stays", x.is(4), 4);
    }

    @Says(promise = 10, words = "moves: 0 at least, the DOUGH of the CELL at most")
    static void aStrokeMovesAllAtMost() {
        RolledOut x = Due.ruled("moves 21;");
        Due.is("20 of 20", x.stroke(0, 4, true), 20);
        Due.is("left", x.of(4, 0), 0);
        Due.is("there", x.of(5, 0), 40);
        RolledOut y = Due.ruled("moves 0-5;");
        Due.is("0 at least", y.stroke(0, 4, true), 0);
        Due.row(y, 20, 20, 20, 20, 20, 20);
    }

    // ---- 11

    @Says(promise = 11, words = "TRIMMED: how much. NONE, if nothing hangs over.")
    static void nothingIsNotTrimmed() {
        RolledOut x = Due.made(1);
        Due.is("trim()", x.trim(), -1);
        Due.is("no step", x.about(4), 0);
        x.dough(0, 1);
        x.stroke(0, 0, false);
        Due.is("a stroke of nothing over the edge", x.trim(), -1);
        Due.is("steps", x.about(4), 1);
        x.dough(0, 2);
        x.stroke(0, 0, false);
        Due.is("just 1", x.trim(), 1);
        Due.is("again", x.trim(), -1);
        Due.is("steps", x.about(4), 3);
    }

    @Says(promise = 11, words = "TRIMMED: EDGE comes to BALL (if it is above 0).")
    static void theEdgeComesToWhatTheBallHas() {
        RolledOut x = Due.ruled("moves 7;");
        x.stroke(0, 0, false);
        x.stroke(0, 11, true);
        Due.is("trim()", x.trim(), 14);
        Due.is("edge", x.is(3), 0);
        Due.is("ball", x.is(2), 14);
        x.stroke(0, 0, false);
        Due.is("trim()", x.trim(), 7);
        Due.is("ball", x.is(2), 21);
        Due.is("edge", x.is(3), 0);
    }

    // ---- 12

    @Says(promise = 12, words = "False, if it can't be, and for others (n 1 .. 99).")
    static void patchesAreOf1To99() {
        RolledOut x = trimmed(300);
        for (int n : new int[] {0, 100, -1, LOW, HIGH}) {
            Due.is("patch(0, " + n + ")", x.patch(0, n), false);
        }
        Due.is("no step", x.about(4), 3);
        Due.is("patch(0, 1)", x.patch(0, 1), true);
        Due.is("patch(11, 99)", x.patch(11, 99), true);
        Due.is("of 0", x.of(0, 0), 3);
        Due.is("of 11", x.of(11, 0), 101);
        Due.is("ball", x.is(2), 200);
        Due.is("steps", x.about(4), 5);
    }

    @Says(promise = 12, words = "False, if it can't be, and for others (n 1 .. 99).")
    static void otherCellsAreNotPatched() {
        RolledOut x = trimmed(50);
        for (int cell : new int[] {-1, 12, LOW, HIGH, 32}) {
            Due.is("patch(" + cell + ", 1)", x.patch(cell, 1), false);
        }
        Due.is("ball", x.is(2), 50);
        Due.is("no step", x.about(4), 3);
    }

    @Says(promise = 12, words = "PATCHED: a TORN CELL has 1 .. 99 more DOUGH")
    static void aCellThatIsNotTornIsNotPatched() {
        RolledOut x = trimmed(50);
        x.dough(5, 0);
        for (int cell = 1; cell < 11; cell++) {
            Due.is("patch(" + cell + ", 1)", x.patch(cell, 1), false);
        }
        Due.is("patch(0, 1)", x.patch(0, 1), true);
        Due.is("it isn't torn any more", x.patch(0, 1), false);
        Due.is("of 0", x.of(0, 0), 3);
    }

    @Says(promise = 12, words = "from BALL (that has as much)")
    static void theBallMustHaveAsMuch() {
        RolledOut x = trimmed(10);
        Due.is("one more than the ball has", x.patch(0, 11), false);
        Due.is("ball", x.is(2), 10);
        Due.is("torn yet", x.of(0, 1), 1);
        Due.is("all of the ball", x.patch(0, 10), true);
        Due.is("ball", x.is(2), 0);
        Due.is("nothing is left for the other", x.patch(11, 1), false);
        RolledOut y = Due.ruled("moves dough;");
        y.stroke(0, 0, false);
        Due.is("what hangs over isn't of the ball", y.patch(0, 1), false);
    }

    @Says(promise = 12, words = "and isn't TORN.")
    static void aPatchedCellIsNotTornHoweverThin() {
        RolledOut x = Due.ruled("moves dough;tears 99;");
        x.stroke(0, 0, false);
        x.trim();
        Due.is("torn", x.is(4), 1);
        Due.is("patch(0, 1)", x.patch(0, 1), true);
        Due.is("not torn", x.is(4), 0);
        Due.is("of 0", x.of(0, 0), 1);
        x.stroke(0, 0, false);
        Due.is("it may tear again", x.is(4), 1);
    }

    // ---- 13

    @Says(promise = 13, words = "TURNS pass (1 .. 60): how many CELLS tear in them. NONE for others")
    static void from1To60TurnsPass() {
        RolledOut x = new RolledOut();
        for (int n : new int[] {0, 61, -1, LOW, HIGH}) {
            Due.is("roll(" + n + ")", x.roll(n), -1);
        }
        Due.is("nothing is done", x.is(0), 0);
        Due.is("roll(1)", x.roll(1), 0);
        Due.is("turn", x.is(0), 1);
        Due.is("roll(60)", x.roll(60), 0);
        Due.is("turn", x.is(0), 61);
    }

    @Says(promise = 13, words = "or beyond 9999 (nothing is done then).")
    static void noTurnIsBeyond9999() {
        RolledOut x = new RolledOut();
        Due.pass(x, 9939);
        x.hand(1);
        x.image();
        Due.is("just up to 9999", x.roll(60) >= 0, true);
        Due.is("turn", x.is(0), 9999);
        int drawn = x.is(1);
        Due.is("none can pass", x.roll(1), -1);
        Due.is("turn", x.is(0), 9999);
        Due.is("X", x.is(1), drawn);
        x.back();
        x.roll(1);
        String ahead = Due.all(x);
        Due.is("one too many", x.roll(60), -1);
        Due.same("nothing is done", Due.all(x), ahead);
        Due.is("as many as can be", x.roll(59) >= 0, true);
        Due.is("turn", x.is(0), 9999);
    }

    @Says(promise = 13, words = "A TURN: are there HANDS")
    static void withoutHandsNothingIsDrawn() {
        RolledOut x = new RolledOut();
        Due.is("roll(60)", x.roll(60), 0);
        Due.is("X", x.is(1), 281);
        Due.is("turn", x.is(0), 60);
        Due.is("book", x.book(-1, 0), 0);
        Due.row(x, 20, 20, 20, 20, 20, 20, 20, 20, 20, 20, 20, 20);
        x.hand(1);
        x.roll(1);
        Due.is("X with a hand", x.is(1), 6054);
    }

    @Says(promise = 13, words = "the HAND TURN mod how many strokes")
    static void theHandsComeInTurn() {
        for (int hands = 1; hands <= 4; hands++) {
            RolledOut x = new RolledOut();
            x.roll(5);
            for (int i = 0; i < hands; i++) {
                x.hand(1 + i);
            }
            x.roll(9);
            Due.is("strokes", x.book(-1, 0), 9);
            for (int i = 0; i < 9; i++) {
                Due.is("turn of stroke " + i, x.book(i, 0), 5 + i);
                Due.is("hand of stroke " + i, x.book(i, 1), (5 + i) % hands);
            }
        }
    }

    @Says(promise = 13, words = "(X mod 12, X becoming (X * 541 + 419) mod 30713 behind it), to the right, if a draw by 2 is 1")
    static void drawsGoRound() {
        RolledOut x = Due.made(1);
        x.roll(29);
        int drawn = 281;
        for (int i = 0; i < 29; i++) {
            int cell = drawn % 12;
            drawn = Due.drawn(drawn, 1);
            Due.is("stroke " + i, x.book(i, 2), 2 * cell + drawn % 2);
            drawn = Due.drawn(drawn, 1);
        }
        Due.is("X", x.is(1), drawn);
        x.roll(60);
        Due.is("X behind 60 more", x.is(1), Due.drawn(281, 2 * 89));
    }

    @Says(promise = 13, words = "(if the CELL has no DOUGH, it doesn't; both draws are made)")
    static void bothDrawsAreMadeWithoutAStroke() {
        RolledOut x = Due.made(1);
        x.dough(5, 0);
        Due.is("roll(1)", x.roll(1), 0);
        Due.is("X", x.is(1), 6054);
        Due.is("nothing is written", x.book(-1, 0), 0);
        Due.is("it doesn't tear", x.is(4), 0);
        Due.is("turn", x.is(0), 1);
        Due.is("it is a step", x.about(4), 1);
        RolledOut y = Due.made(1);
        y.dough(5, 1);
        Due.is("with 1 it tears", y.roll(1), 1);
        Due.is("it is written", y.book(-1, 0), 1);
    }

    @Says(promise = 13, words = "TURNS pass (1 .. 60): how many CELLS tear in them.")
    static void cellsThatAreTornDoNotTearAgain() {
        RolledOut x = Due.made(1);
        // the first turn strokes from cell 5 to the left, the second from cell 6 to the right
        x.dough(5, 2);
        x.dough(6, 2);
        x.stroke(0, 5, true);
        x.dough(6, 2);
        Due.is("torn ahead of it", x.is(4), 32);
        Due.is("cell 5 again", x.roll(1), 0);
        Due.is("cell 6", x.roll(1), 1);
        Due.is("torn", x.is(4), 96);
        RolledOut y = Due.ruled("moves 0;tears 99;");
        Due.is("each cell once", y.roll(60), Integer.bitCount(y.is(4)));
        Due.is("sixty more", Integer.bitCount(y.is(4)) + y.roll(60), Integer.bitCount(y.is(4)));
    }

    @Says(promise = 13, words = "a TURN (each)")
    static void eachTurnIsAStep() {
        RolledOut x = Due.made(1);
        x.roll(3);
        Due.is("about(4)", x.about(4), 3);
        x.undo();
        Due.is("turn", x.is(0), 2);
        Due.is("X", x.is(1), Due.drawn(281, 4));
        Due.is("book", x.book(-1, 0), 2);
    }

    // ---- 14

    @Says(promise = 14, words = "-2 for others.")
    static void otherTextsAreNotPlayed() {
        RolledOut x = new RolledOut();
        Due.is("played(0) of none", x.played(0), -2);
        Due.read(x, "town 1;");
        for (int text : new int[] {-1, 1, 3, 4, -2, LOW, HIGH}) {
            Due.is("played(" + text + ")", x.played(text), -2);
        }
        Due.is("no town", x.about(1), 0);
        Due.is("played(0)", x.played(0), -1);
        Due.is("a town", x.about(1), 1);
    }

    @Says(promise = 14, words = "NONE: all is done; else the number of the CLAUSE that can't be.")
    static void allIsDoneOfATextOfNothingAndOfLawsAlone() {
        RolledOut x = new RolledOut();
        Due.read(x, "");
        Due.read(x, "moves 1;tears 1;");
        Due.is("of none", x.played(0), -1);
        Due.is("of laws", x.played(1), -1);
        Due.is("no step", x.about(4), 0);
        Due.is("it doesn't rule", x.about(3), -1);
    }

    @Says(promise = 14, words = "its number among all CLAUSES (from 0); what was done stays.")
    static void lawsCountAmongTheClauses() {
        RolledOut x = new RolledOut();
        Due.read(x, "moves 3;town 4;tears 5;dough 7 at 8;trim;hand 9;");
        Due.is("played", x.played(0), 4);
        Due.is("the town stays", x.ofTown(0), 4);
        Due.is("the dough stays", x.of(8, 0), 7);
        Due.is("no hand behind it", x.about(0), 0);
        Due.is("the first can't be", Due.read(x, "trim;town 1;"), 1);
        Due.is("played(1)", x.played(1), 0);
        Due.is("one town", x.about(1), 1);
        Due.read(x, "dough 1 at 1;".repeat(20) + "trim;");
        Due.is("the last can't be", x.played(2), 20);
    }

    @Says(promise = 14, words = "PLAYED by a TEXT: its CLAUSES but laws, in their order, as by hand; one that can't be ends it")
    static void clausesThatCannotBe() {
        String[] texts = {"left 0 by 0;", "hand 1;right 0 by 1;", "hand 1;dough 0 at 3;left 3 by 0;", "trim;",
            "patch 1 at 0;", "hand 1;".repeat(5), "town 5;".repeat(7),
            "hand 1;dough 1 at 0;left 0 by 0;patch 1 at 0;"};
        int[] numbers = {0, 1, 2, 0, 0, 4, 6, 3};
        for (int i = 0; i < texts.length; i++) {
            RolledOut x = new RolledOut();
            Due.read(x, texts[i]);
            Due.is("played [" + texts[i] + "]", x.played(0), numbers[i]);
        }
    }

    @Says(promise = 14, words = "in their order, as by hand")
    static void eachClauseDoesWhatItsCallDoes() {
        RolledOut x = new RolledOut();
        Due.rule(x, "moves 18;hand 4;hand 5;dough 30 at 2;town 2;town 0;left 0 by 1;right 11 by 0;trim;patch 7 at 11;"
                + "right 2 by 1;left 3 by 0;turn 3;");
        Due.is("played", x.played(0), -1);
        RolledOut y = Due.made(4, 5);
        Due.rule(y, "moves 18;hand 4;hand 5;dough 30 at 2;town 2;town 0;left 0 by 1;right 11 by 0;trim;patch 7 at 11;"
                + "right 2 by 1;left 3 by 0;turn 3;");
        y.dough(2, 30);
        y.town(2);
        y.town(0);
        Due.is("left 0", y.stroke(1, 0, false), 18);
        Due.is("right 11", y.stroke(0, 11, true), 18);
        Due.is("trim", y.trim(), 36);
        Due.is("patch", y.patch(11, 7), true);
        Due.is("right 2", y.stroke(1, 2, true), 18);
        Due.is("left 3", y.stroke(0, 3, false), 18);
        y.roll(3);
        Due.same("by a text", Due.all(x), Due.all(y));
        Due.is("steps", x.about(4), 9);
    }

    @Says(promise = 14, words = "(of so many TURNS those that can pass do)")
    static void turnsPassUpTo9999() {
        RolledOut x = new RolledOut();
        Due.read(x, "turn 60;town 3;");
        Due.read(x, "town 1;turn 1;town 2;");
        Due.pass(x, 9939);
        x.image();
        Due.is("just as many as can pass", x.played(0), -1);
        Due.is("turn", x.is(0), 9999);
        Due.is("the town", x.ofTown(0), 3);
        Due.is("no turn can pass", x.played(1), 1);
        Due.is("towns", x.about(1), 2);
        x.back();
        x.roll(1);
        Due.is("one too many", x.played(0), 0);
        Due.is("59 of 60 pass", x.is(0), 9999);
        Due.is("no town", x.about(1), 0);
    }

    // ---- 16

    @Says(promise = 16, words = "The latest STEP is taken back: how many can be yet. NONE: there is none.")
    static void nothingIsTakenBackOfNothing() {
        RolledOut x = Due.made(1);
        x.dough(4, 9);
        x.town(4);
        Due.is("undo()", x.undo(), -1);
        Due.is("what is told stays", x.of(4, 0), 9);
        Due.is("and the town", x.ofTown(0), 4);
        x.stroke(0, 3, true);
        x.stroke(0, 3, true);
        Due.is("one can be yet", x.undo(), 1);
        Due.is("none can be yet", x.undo(), 0);
        Due.is("there is none", x.undo(), -1);
        Due.is("about(4)", x.about(4), 0);
    }

    @Says(promise = 16, words = "the latest 30 can be taken back, the latest first")
    static void thirtyStepsCanBeTakenBack() {
        RolledOut x = new RolledOut();
        x.roll(29);
        Due.is("29 steps", x.about(4), 29);
        x.roll(1);
        Due.is("30 steps", x.about(4), 30);
        x.roll(1);
        Due.is("31 steps", x.about(4), 30);
        for (int i = 29; i >= 0; i--) {
            Due.is("undo()", x.undo(), i);
            Due.is("turn", x.is(0), i + 1);
        }
        Due.is("the first is for good", x.undo(), -1);
        Due.is("turn", x.is(0), 1);
        x.roll(2);
        Due.is("then two", x.undo(), 1);
        Due.is("turn", x.is(0), 2);
    }

    @Says(promise = 16, words = "TOWNS, DOUGH told since are as told")
    static void whatIsToldBehind30StepsIsAsToldBehindAll() {
        RolledOut x = Due.ruled("moves 18;");
        for (int i = 0; i < 5; i++) {
            x.town(4);
        }
        for (int i = 0; i < 30; i++) {
            x.dough(4, 20);
            x.stroke(0, 4, true);
            x.town(4);
        }
        x.dough(4, 123);
        x.dough(0, 321);
        for (int i = 29; i >= 0; i--) {
            Due.is("undo()", x.undo(), i);
            Due.is("of 4", x.of(4, 0), 123);
            Due.is("of 0", x.of(0, 0), 321);
            Due.is("ofTown(5)", x.ofTown(5), i > 1 ? 5 : 4);
            Due.is("of 5", x.of(5, 0), 20 + 18 * i);
        }
        Due.is("the first five", x.of(4, 2), 63);
    }

    @Says(promise = 16, words = "TOWNS, DOUGH told since are as told")
    static void aTownToldBehind30StepsIsAsToldBehindAll() {
        RolledOut x = new RolledOut();
        x.roll(35);
        x.town(7);
        x.town(0);
        for (int i = 29; i >= 0; i--) {
            Due.is("undo()", x.undo(), i);
            Due.is("ofTown(0)", x.ofTown(0), 7);
            Due.is("ofTown(1)", x.ofTown(1), 0);
        }
        Due.is("about(1)", x.about(1), 2);
    }

    @Says(promise = 16, words = "(DOUGH, TORN, TOWNS, EDGE, BALL, TURN, X, BOOK are as ahead of it")
    static void theSixthTownAndTheThirtiethStrokeAreAsAheadOfIt() {
        RolledOut x = Due.ruled("moves 18;");
        for (int i = 0; i < 6; i++) {
            x.town(11);
        }
        for (int i = 0; i < 29; i++) {
            x.dough(i % 10, 20);
            x.stroke(0, i % 10, true);
        }
        x.stroke(0, 10, false);
        x.dough(11, 18);
        x.stroke(0, 11, true);
        Due.is("all fell", x.fallen(), 63);
        x.undo();
        Due.is("all are there", x.of(11, 2), 63);
        Due.is("the latest stroke", x.book(29, 2), 20);
        x.stroke(0, 9, false);
        x.undo();
        Due.is("the latest stroke", x.book(29, 2), 20);
        Due.is("the eldest stroke", x.book(0, 2), 1);
    }

    @Says(promise = 16, words = "STEPS: STROKED, TRIMMED, PATCHED, a TURN (each), YEARS (see V)")
    static void eachKindOfStepIsTakenBack() {
        RolledOut x = Due.ruled("moves 18;");
        x.town(0);
        String[] ahead = new String[3];
        ahead[0] = Due.all(x);
        x.stroke(0, 0, false);
        ahead[1] = Due.all(x);
        x.trim();
        ahead[2] = Due.all(x);
        x.patch(0, 5);
        x.roll(1);
        x.years(1, 40);
        Due.is("steps", x.about(4), 5);
        Due.is("undo the years", x.undo(), 4);
        Due.is("turn", x.is(0), 1);
        Due.is("X", x.is(1), 6054);
        Due.is("book", x.book(-1, 0), 2);
        Due.is("undo the turn", x.undo(), 3);
        Due.is("turn", x.is(0), 0);
        Due.is("X", x.is(1), 281);
        Due.is("undo the patch", x.undo(), 2);
        Due.same("ahead of the patch", Due.all(x), ahead[2]);
        Due.is("undo the trim", x.undo(), 1);
        Due.same("ahead of the trim", Due.all(x), ahead[1]);
        Due.is("undo the stroke", x.undo(), 0);
        Due.same("ahead of the stroke", Due.all(x), ahead[0]);
    }

    @Says(promise = 16, words = "STEPS: STROKED, TRIMMED, PATCHED, a TURN (each), YEARS (see V)")
    static void refusedCallsAndTellingAreNoSteps() {
        RolledOut x = Due.made(1);
        x.dough(3, 0);
        x.town(3);
        x.stroke(0, 3, true);
        x.stroke(1, 4, true);
        x.trim();
        x.patch(3, 1);
        x.roll(0);
        x.roll(61);
        x.years(0, 0);
        x.years(-1, 5);
        Due.rule(x, "trim;");
        x.played(0);
        x.said(0, 1, 2);
        x.image();
        Due.is("about(4)", x.about(4), 0);
        Due.is("undo()", x.undo(), -1);
    }

    @Says(promise = 16, words = "(DOUGH, TORN, TOWNS, EDGE, BALL, TURN, X, BOOK are as ahead of it")
    static void theBookIsAsAheadOfIt() {
        RolledOut x = Due.ruled("moves 0;tears 0;");
        for (int i = 0; i < 31; i++) {
            x.stroke(0, i % 12, i < 12);
        }
        Due.is("thirty", x.book(-1, 0), 30);
        Due.is("the eldest", x.book(0, 2), 3);
        Due.is("the latest", x.book(29, 2), 12);
        x.undo();
        Due.is("thirty yet", x.book(-1, 0), 30);
        Due.is("the eldest is back", x.book(0, 2), 1);
        Due.is("the latest", x.book(29, 2), 10);
        x.undo();
        Due.is("29", x.book(-1, 0), 29);
        Due.is("the eldest", x.book(0, 2), 1);
        Due.is("no 29th", x.book(29, 2), -2);
    }

    @Says(promise = 16, words = "TOWNS, DOUGH told since are as told")
    static void doughToldSinceIsAsTold() {
        RolledOut x = Due.made(1);
        x.dough(6, 50);
        x.stroke(0, 4, true);
        x.dough(4, 77);
        x.dough(9, 0);
        Due.is("undo()", x.undo(), 0);
        Due.row(x, 20, 20, 20, 20, 77, 20, 50, 20, 20, 0, 20, 20);
        x.stroke(0, 4, true);
        x.undo();
        Due.is("told ahead of it", x.of(4, 0), 77);
    }

    @Says(promise = 16, words = "TOWNS, DOUGH told since are as told")
    static void doughToldBetweenTwoStepsIsAsToldBehindBoth() {
        RolledOut x = Due.made(1);
        x.stroke(0, 4, true);
        x.dough(4, 80);
        x.stroke(0, 4, true);
        Due.is("of 4", x.of(4, 0), 40);
        x.undo();
        Due.is("ahead of the second", x.of(4, 0), 80);
        Due.is("of 5", x.of(5, 0), 30);
        x.undo();
        Due.is("as told", x.of(4, 0), 80);
        Due.is("of 5", x.of(5, 0), 20);
        x.roll(2);
        x.dough(4, 5);
        x.dough(4, 6);
        x.undo();
        x.undo();
        Due.is("as told at last", x.of(4, 0), 6);
    }

    @Says(promise = 16, words = "TOWNS, DOUGH told since are as told")
    static void townsToldSinceAreAsTold() {
        RolledOut x = Due.ruled("moves 18;");
        x.town(4);
        x.stroke(0, 4, true);
        x.town(4);
        x.town(5);
        x.dough(5, 20);
        x.stroke(0, 5, false);
        Due.is("carried", x.of(4, 2), 7);
        x.undo();
        Due.is("ahead of the second", x.of(4, 2), 2);
        Due.is("ahead of the second", x.of(5, 2), 5);
        x.undo();
        Due.is("ahead of the first, and as told", x.of(4, 2), 3);
        Due.is("as told", x.of(5, 2), 4);
        Due.is("about(1)", x.about(1), 3);
        x.stroke(0, 0, false);
        x.town(0);
        x.dough(0, 18);
        x.stroke(0, 0, false);
        Due.is("it fell", x.ofTown(3), -1);
        x.undo();
        x.undo();
        Due.is("as told", x.ofTown(3), 0);
    }

    @Says(promise = 16, words = "TOWNS, DOUGH told since are as told")
    static void tornIsTakenBackAndWhatElseIsToldStays() {
        RolledOut x = Due.made(1);
        x.dough(4, 2);
        x.stroke(0, 4, true);
        x.dough(4, 500);
        Due.is("torn", x.of(4, 1), 1);
        x.undo();
        Due.is("not torn", x.of(4, 1), 0);
        Due.is("as told", x.of(4, 0), 500);
        x.hand(2);
        x.roll(1);
        x.hand(3);
        x.said(0, 0, 0);
        Due.rule(x, "moves 1;");
        x.undo();
        Due.is("hands stay", x.about(0), 3);
        Due.is("texts stay", x.about(2), 1);
        Due.is("the text stays", x.about(3), 0);
        Due.is("said stays", x.about(5), 1);
    }
}
