/** Boundary cases of what is asked of cells, towns, hands, the book and what comes: promises 17 to 19 and 21 to 23. */
final class EdgesAsked {
    private static final int LOW = Integer.MIN_VALUE;
    private static final int HIGH = Integer.MAX_VALUE;

    private EdgesAsked() {
    }

    // ---- 17

    @Says(promise = 17, words = "3 tears now. NONE for others.")
    static void ofOthersIsNone() {
        RolledOut x = new RolledOut();
        for (int what = -1; what <= 4; what++) {
            for (int cell : new int[] {-1, 12, LOW, HIGH}) {
                Due.is("of(" + cell + ", " + what + ")", x.of(cell, what), -1);
            }
        }
        for (int what : new int[] {-1, 4, LOW, HIGH}) {
            Due.is("of(0, " + what + ")", x.of(0, what), -1);
            Due.is("of(11, " + what + ")", x.of(11, what), -1);
        }
    }

    @Says(promise = 17, words = "Of a CELL: 0 DOUGH, 1 whether it is TORN (1, 0), 2 TOWNS in it (bits)")
    static void ofTheFirstAndTheLastCell() {
        RolledOut x = Due.made(1);
        x.dough(0, 4);
        x.dough(11, 5);
        x.stroke(0, 0, true);
        for (int i = 0; i < 6; i++) {
            x.town(i % 2 == 0 ? 0 : 11);
        }
        int[] first = {2, 1, 21, 3};
        int[] last = {5, 0, 42, 3};
        for (int what = 0; what < 4; what++) {
            Due.is("of(0, " + what + ")", x.of(0, what), first[what]);
            Due.is("of(11, " + what + ")", x.of(11, what), last[what]);
        }
        Due.is("no towns", x.of(5, 2), 0);
    }

    // ---- 18, 19

    @Says(promise = 18, words = "The CELL of a TOWN. NONE: it fell over the edge, -2 for others.")
    static void townsThatFellAndOthers() {
        RolledOut x = Due.ruled("moves dough;");
        Due.is("none told", x.ofTown(0), -2);
        x.town(0);
        x.town(11);
        for (int other : new int[] {-1, 2, 5, 6, LOW, HIGH}) {
            Due.is("ofTown(" + other + ")", x.ofTown(other), -2);
        }
        Due.is("ofTown(0)", x.ofTown(0), 0);
        Due.is("ofTown(1)", x.ofTown(1), 11);
        x.stroke(0, 0, false);
        Due.is("it fell", x.ofTown(0), -1);
        Due.is("the other not", x.ofTown(1), 11);
        for (int i = 2; i < 6; i++) {
            x.town(i);
        }
        Due.is("ofTown(5)", x.ofTown(5), 5);
        Due.is("ofTown(6)", x.ofTown(6), -2);
    }

    @Says(promise = 19, words = "STRENGTH. NONE for others.")
    static void strengthsOfOthers() {
        RolledOut x = new RolledOut();
        Due.is("none told", x.ofHand(0), -1);
        x.hand(9);
        for (int other : new int[] {-1, 1, 3, 4, LOW, HIGH}) {
            Due.is("ofHand(" + other + ")", x.ofHand(other), -1);
        }
        Due.is("ofHand(0)", x.ofHand(0), 9);
        x.hand(1);
        x.hand(2);
        x.hand(3);
        Due.is("ofHand(3)", x.ofHand(3), 3);
        Due.is("ofHand(4)", x.ofHand(4), -1);
    }

    // ---- 21

    @Says(promise = 21, words = "5 DOUGH of all CELLS. -2 for others.")
    static void isOfOthersIsOther() {
        RolledOut x = new RolledOut();
        for (int what : new int[] {-1, 6, LOW, HIGH}) {
            Due.is("is(" + what + ")", x.is(what), -2);
        }
        int[] lump = {0, 281, 0, 0, 0, 240};
        for (int what = 0; what < 6; what++) {
            Due.is("is(" + what + ")", x.is(what), lump[what]);
        }
    }

    @Says(promise = 21, words = "2 BALL, 3 EDGE, 4 TORN CELLS (bits), 5 DOUGH of all CELLS.")
    static void whatIsOffTheSheetIsNotOfItsDough() {
        RolledOut x = Due.ruled("moves dough;");
        for (int cell = 0; cell < 12; cell++) {
            x.dough(cell, 999);
        }
        Due.is("the most that can be told", x.is(5), 12 * 999);
        x.stroke(0, 0, false);
        x.stroke(0, 11, true);
        Due.is("is(5)", x.is(5), 10 * 999);
        Due.is("is(3)", x.is(3), 2 * 999);
        Due.is("is(4)", x.is(4), 1 | 1 << 11);
        x.trim();
        Due.is("is(2)", x.is(2), 2 * 999);
        Due.is("is(5)", x.is(5), 10 * 999);
    }

    // ---- 22

    @Says(promise = 22, words = "-2 if there is none such, and for others.")
    static void strokesThatAreNotInTheBook() {
        RolledOut x = Due.made(1);
        Due.is("how many of none", x.book(-1, 0), 0);
        Due.is("none", x.book(0, 0), -2);
        x.stroke(0, 4, true);
        x.stroke(0, 4, false);
        for (int i : new int[] {2, 29, 30, -2, LOW, HIGH}) {
            Due.is("book(" + i + ", 0)", x.book(i, 0), -2);
        }
        for (int what : new int[] {-1, 4, LOW, HIGH}) {
            Due.is("book(0, " + what + ")", x.book(0, what), -2);
            Due.is("book(1, " + what + ")", x.book(1, what), -2);
        }
    }

    @Says(promise = 22, words = "BOOK (the latest 30 strokes): TURN, HAND, CELL and way, how much.")
    static void theBookHasTheLatest30() {
        RolledOut x = Due.made(1);
        for (int i = 0; i < 29; i++) {
            x.dough(3, 2 * i + 20);
            x.stroke(0, 3, i % 2 == 0);
        }
        Due.is("29", x.book(-1, 0), 29);
        Due.is("the eldest", x.book(0, 3), 10);
        x.stroke(0, 0, false);
        Due.is("30", x.book(-1, 0), 30);
        Due.is("the eldest", x.book(0, 3), 10);
        Due.is("the latest", x.book(29, 2), 0);
        x.stroke(0, 11, true);
        Due.is("30 at most", x.book(-1, 0), 30);
        Due.is("the eldest is the second", x.book(0, 3), 11);
        Due.is("the latest", x.book(29, 2), 23);
        Due.is("the one ahead", x.book(28, 2), 0);
        Due.is("no 30th", x.book(30, 2), -2);
    }

    @Says(promise = 22, words = "BOOK (the latest 30 strokes)")
    static void theBookGoesRound() {
        RolledOut x = Due.made(1);
        for (int i = 0; i < 95; i++) {
            x.dough(3, 2 * i + 10);
            x.stroke(0, 3, true);
            if (i >= 28) {
                Due.is("how many behind " + (i + 1), x.book(-1, 0), Math.min(30, i + 1));
                Due.is("the eldest behind " + (i + 1), x.book(0, 3), Math.max(0, i - 29) + 5);
                Due.is("the latest behind " + (i + 1), x.book(Math.min(29, i), 3), i + 5);
            }
        }
        for (int i = 0; i < 30; i++) {
            Due.is("stroke " + i, x.book(i, 3), 65 + i + 5);
        }
    }

    @Says(promise = 22, words = "the i-th, from the eldest on: 0 TURN, 1 HAND, 2 twice the CELL, and 1 if to the right, 3 how much.")
    static void eachPartAtItsMost() {
        RolledOut x = Due.made(1, 2, 3, 4);
        Due.rule(x, "moves dough;");
        Due.pass(x, 9999);
        x.dough(11, 999);
        x.stroke(3, 11, true);
        int last = x.book(-1, 0) - 1;
        int[] most = {9999, 3, 23, 999};
        for (int what = 0; what < 4; what++) {
            Due.is("book(last, " + what + ")", x.book(last, what), most[what]);
        }
        RolledOut y = Due.made(1);
        y.dough(0, 1);
        y.stroke(0, 0, false);
        for (int what = 0; what < 4; what++) {
            Due.is("book(0, " + what + ")", y.book(0, what), 0);
        }
    }

    // ---- 23

    @Says(promise = 23, words = "2 TORN CELLS (bits). -2 for others.")
    static void othersAreNotForetold() {
        RolledOut x = Due.made(1);
        x.town(3);
        for (int n : new int[] {0, 61, -1, LOW, HIGH}) {
            for (int what = 0; what < 3; what++) {
                Due.is("foretold(" + n + ", " + what + ", 0)", x.foretold(n, what, 0), -2);
            }
        }
        for (int what : new int[] {-1, 3, LOW, HIGH}) {
            Due.is("foretold(1, " + what + ", 0)", x.foretold(1, what, 0), -2);
        }
        for (int which : new int[] {-1, 12, LOW, HIGH}) {
            Due.is("foretold(1, 0, " + which + ")", x.foretold(1, 0, which), -2);
        }
        for (int which : new int[] {-1, 1, 5, 6, LOW, HIGH}) {
            Due.is("foretold(1, 1, " + which + ")", x.foretold(1, 1, which), -2);
        }
    }

    @Says(promise = 23, words = "FORETOLD behind n TURNS (1 .. 60; those that can pass), nothing else being done.")
    static void oneAndSixtyTurnsAreForetold() {
        RolledOut x = Due.made(1, 2);
        Due.rule(x, "moves dough-who-1;");
        x.town(5);
        String ahead = Due.all(x);
        for (int n : new int[] {1, 60}) {
            int[] dough = new int[12];
            for (int cell = 0; cell < 12; cell++) {
                dough[cell] = x.foretold(n, 0, cell);
            }
            int town = x.foretold(n, 1, 0);
            int torn = x.foretold(n, 2, 0);
            Due.same("nothing is done", Due.all(x), ahead);
            x.roll(n);
            Due.row(x, dough);
            Due.is("town", x.ofTown(0), town);
            Due.is("torn", x.is(4), torn);
            x.back();
            x.hand(1);
            x.hand(2);
            Due.rule(x, "moves dough-who-1;");
            x.town(5);
        }
    }

    @Says(promise = 23, words = "1 the CELL of a TOWN (NONE: it fell)")
    static void aTownIsForetoldToFall() {
        // the 14th turn is the first that strokes from cell 11 to the right
        RolledOut x = Due.ruled("moves if cell=11 and right=1 then dough else 0 end;");
        x.town(11);
        Due.is("behind 13 turns", x.foretold(13, 1, 0), 11);
        Due.is("behind 14", x.foretold(14, 1, 0), -1);
        Due.is("behind 60", x.foretold(60, 1, 0), -1);
        Due.is("now", x.ofTown(0), 11);
    }

    @Says(promise = 23, words = "(1 .. 60; those that can pass)")
    static void turnsBeyond9999AreNotForetold() {
        RolledOut x = new RolledOut();
        Due.pass(x, 9998);
        x.hand(1);
        // one turn can pass: from cell 5 to the left; a second would stroke from cell 6
        for (int n : new int[] {1, 2, 60}) {
            Due.is("of 5", x.foretold(n, 0, 5), 10);
            Due.is("of 4", x.foretold(n, 0, 4), 30);
            Due.is("of 6", x.foretold(n, 0, 6), 20);
        }
        x.roll(1);
        Due.is("none can pass", x.foretold(1, 0, 6), 20);
        Due.is("of 60", x.foretold(60, 0, 6), 20);
        Due.is("torn", x.foretold(60, 2, 0), 0);
        Due.is("turn", x.is(0), 9999);
    }
}
