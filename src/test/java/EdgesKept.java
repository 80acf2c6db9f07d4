/** Boundary cases of towns, what is said, the ledger and the image: promises 45 to 52. */
final class EdgesKept {
    private static final int LOW = Integer.MIN_VALUE;
    private static final int HIGH = Integer.MAX_VALUE;

    private EdgesKept() {
    }

    // ---- 45, 46

    @Says(promise = 45, words = "TOWNS APART. NONE: there are not two.")
    static void noneAndOneAreNotTwo() {
        RolledOut x = new RolledOut();
        Due.is("none", x.apart(), -1);
        x.town(6);
        Due.is("one", x.apart(), -1);
        x.town(6);
        Due.is("two in one cell", x.apart(), 0);
    }

    @Says(promise = 45, words = "how far the two that are nearest are; fallen ones aside")
    static void theNearestOfThoseThatDidNotFall() {
        RolledOut x = Due.ruled("moves dough;");
        x.town(11);
        x.town(0);
        Due.is("from end to end", x.apart(), 11);
        x.town(4);
        Due.is("three", x.apart(), 4);
        x.town(9);
        Due.is("four", x.apart(), 2);
        x.stroke(0, 11, true);
        Due.is("one fell", x.apart(), 4);
        x.stroke(0, 0, false);
        Due.is("two fell", x.apart(), 5);
        x.stroke(0, 4, true);
        Due.is("carried", x.apart(), 4);
        for (int cell = 9; cell < 12; cell++) {
            x.dough(cell, 5);
            x.stroke(0, cell, true);
        }
        Due.is("three fell", x.fallen(), 1 | 2 | 8);
        Due.is("one is left", x.apart(), -1);
    }

    @Says(promise = 45, words = "how far the two that are nearest are")
    static void eachTwoOfSixMayBeNearest() {
        for (int one = 0; one < 6; one++) {
            for (int other = one + 1; other < 6; other++) {
                RolledOut x = Due.ruled("moves dough;");
                for (int town = 0; town < 6; town++) {
                    x.town(town == one ? 4 : town == other ? 7 : 0);
                }
                Due.is("four in one cell", x.apart(), 0);
                x.stroke(0, 0, false);
                Due.is("four fell: " + one + " and " + other, x.apart(), 3);
            }
        }
    }

    @Says(promise = 46, words = "FALLEN: TOWNS (bits).")
    static void noneAndAllTownsMayFall() {
        RolledOut x = Due.ruled("moves dough;");
        Due.is("no towns", x.fallen(), 0);
        for (int i = 0; i < 6; i++) {
            x.town(i < 3 ? 0 : 11);
        }
        Due.is("none fell", x.fallen(), 0);
        x.stroke(0, 11, true);
        Due.is("the last three", x.fallen(), 56);
        x.stroke(0, 0, false);
        Due.is("all", x.fallen(), 63);
        x.undo();
        Due.is("taken back", x.fallen(), 56);
    }

    // ---- 47, 48

    @Says(promise = 47, words = "-2 for others, or if there are 8.")
    static void eightMayBeSaid() {
        RolledOut x = Due.made(1);
        for (int i = 1; i <= 8; i++) {
            Due.is("said " + i, x.said(0, 5, 10), i);
        }
        Due.is("a ninth", x.said(0, 5, 11), -2);
        Due.is("about(5)", x.about(5), 8);
        Due.read(x, "");
        Due.is("it isn't taken", x.whose(), 1);
    }

    @Says(promise = 47, words = "-2 for others, or if there are 8.")
    static void othersAreNotSaid() {
        RolledOut x = new RolledOut();
        Due.is("no hand", x.said(0, 0, 0), -2);
        x.hand(1);
        for (int hand : new int[] {1, 3, 4, -2, LOW, HIGH}) {
            Due.is("hand " + hand, x.said(hand, 0, 0), -2);
        }
        for (int cell : new int[] {-1, 12, LOW, HIGH}) {
            Due.is("cell " + cell, x.said(0, cell, 0), -2);
        }
        for (int moves : new int[] {-1, 10000, LOW, HIGH}) {
            Due.is("moves " + moves, x.said(0, 0, moves), -2);
        }
        Due.is("about(5)", x.about(5), 0);
        Due.is("cell 0, moves 0", x.said(0, 0, 0), 1);
        Due.is("cell 11, moves 9999", x.said(0, 11, 9999), 2);
    }

    @Says(promise = 47, words = "SAID: how many there are (hand NONE: none any more).")
    static void noneAnyMore() {
        RolledOut x = Due.made(1);
        Due.is("of none", x.said(-1, 0, 0), 0);
        Due.read(x, "");
        x.said(0, 5, 11);
        Due.is("not so", x.whose(), 0);
        Due.is("none any more", x.said(-1, 0, 0), 0);
        Due.is("about(5)", x.about(5), 0);
        Due.is("all again", x.whose(), 1);
        for (int i = 1; i <= 8; i++) {
            x.said(0, 5, 10);
        }
        Due.is("eight no more", x.said(-1, 0, 0), 0);
        Due.is("one", x.said(0, 5, 10), 1);
    }

    @Says(promise = 48, words = "TEXTS (bits) by whose moves (a TEXT without it: by what is so without) all are so (as now)")
    static void nothingSaidIsTheLawOfAll() {
        RolledOut x = Due.made(1);
        Due.is("no texts", x.whose(), 0);
        for (int i = 0; i < 4; i++) {
            Due.read(x, "moves " + i + ";");
            Due.is("texts " + (i + 1), x.whose(), (2 << i) - 1);
        }
        x.said(0, 5, 3);
        Due.is("the last", x.whose(), 8);
        x.said(0, 11, 3);
        Due.is("over the edge as well", x.whose(), 8);
        x.said(0, 5, 0);
        Due.is("not both", x.whose(), 0);
    }

    @Says(promise = 48, words = "(a TEXT without it: by what is so without)")
    static void aTextWithoutMovesIsHalf() {
        RolledOut x = Due.made(1);
        Due.read(x, "tears 7;");
        Due.read(x, "moves 9;");
        Due.rule(x, "moves 4;");
        x.dough(5, 19);
        x.said(0, 5, 9);
        Due.is("half of 19, whatever rules", x.whose(), 3);
        x.dough(5, 18);
        Due.is("half of 18", x.whose(), 3);
        x.dough(5, 20);
        Due.is("as now", x.whose(), 2);
    }

    @Says(promise = 48, words = "a HAND, a CELL, moves 0 .. 9999 to the right")
    static void whatIsSaidIsToTheRight() {
        RolledOut x = Due.made(3, 5);
        Due.read(x, "moves right*10+strength;");
        Due.read(x, "moves if right=0 then 15 else 0 end;");
        Due.read(x, "moves next;");
        Due.read(x, "moves 9999;");
        x.said(1, 11, 15);
        Due.is("the hand said", x.whose(), 1);
        x.said(-1, 0, 0);
        x.said(0, 4, 20);
        Due.is("not more than there is", x.whose(), 4 | 8);
        x.dough(5, 19);
        Due.is("the cell to the right", x.whose(), 8);
        x.said(-1, 0, 0);
        x.dough(4, 0);
        x.said(0, 4, 0);
        Due.is("nothing of nothing", x.whose(), 15);
        x.said(0, 4, 9999);
        Due.is("9999 of nothing", x.whose(), 0);
    }

    // ---- 49

    @Says(promise = 49, words = "how much was moved by a HAND (NONE: by all)")
    static void theLedgerIsOfTheBook() {
        RolledOut x = Due.made(1, 2);
        Due.is("none yet", x.ledger(-1), 0);
        Due.is("none by 0", x.ledger(0), 0);
        x.stroke(0, 4, true);
        x.stroke(1, 6, true);
        x.stroke(1, 6, true);
        Due.is("by 0", x.ledger(0), 10);
        Due.is("by 1", x.ledger(1), 15);
        Due.is("by all", x.ledger(-1), 25);
        for (int i = 0; i < 27; i++) {
            x.dough(9, 2);
            x.stroke(1, 9, true);
        }
        Due.is("thirty strokes", x.ledger(-1), 52);
        x.dough(9, 2);
        x.stroke(1, 9, true);
        Due.is("the eldest is no more in it", x.ledger(-1), 43);
        Due.is("by 0", x.ledger(0), 0);
        x.undo();
        Due.is("taken back", x.ledger(0), 10);
    }

    @Says(promise = 49, words = "BY THE BOOK. -2 for others.")
    static void othersHaveNoLedger() {
        RolledOut x = new RolledOut();
        Due.is("no hand", x.ledger(0), -2);
        Due.is("by all of none", x.ledger(-1), 0);
        x.hand(1);
        for (int hand : new int[] {1, 3, 4, -2, LOW, HIGH}) {
            Due.is("ledger(" + hand + ")", x.ledger(hand), -2);
        }
        Due.is("ledger(0)", x.ledger(0), 0);
    }

    // ---- 50, 51

    @Says(promise = 50, words = "THE IMAGE is as all is now: TURN.")
    static void theLatestImageIsKept() {
        RolledOut x = Due.made(1);
        Due.is("in turn 0", x.image(), 0);
        x.roll(2);
        Due.is("in turn 2", x.image(), 2);
        x.roll(3);
        Due.is("back to turn 2", x.back(), 2);
        Due.is("carried", x.carried(), 0);
        Due.is("an image changes nothing", x.is(0), 2);
        Due.is("steps", x.about(4), 2);
    }

    @Says(promise = 50, words = "THE IMAGE is as all is now: TURN.")
    static void anImageInTheLastTurn() {
        RolledOut x = new RolledOut();
        Due.pass(x, 9999);
        Due.is("image()", x.image(), 9999);
        x.hand(1);
        Due.is("back()", x.back(), 9999);
        Due.is("hands", x.about(0), 0);
    }

    @Says(promise = 51, words = "AN IMAGE: all as it is, but the tape and the latest FAULT.")
    static void theTapeAndTheFaultAreNotOfTheImage() {
        RolledOut x = new RolledOut();
        Due.put(x, "trim;");
        x.image();
        Due.is("text()", x.text(), 0);
        Due.read(x, "hand 0;");
        Due.put(x, "town 3;");
        x.back();
        Due.is("the tape", x.about(6), 7);
        Due.is("the fault", x.fault(0), 2);
        Due.is("its place", x.fault(1), 5);
        Due.is("no texts", x.about(2), 0);
        Due.is("the tape is read", x.text(), 0);
        Due.is("it plays", x.played(0), -1);
        Due.is("the town", x.ofTown(0), 3);
    }

    @Says(promise = 51, words = "BACK: all is so again.")
    static void allIsSoAgain() {
        RolledOut x = Due.made(3, 4);
        Due.rule(x, "moves 18;town 1;");
        x.town(0);
        x.town(5);
        x.said(0, 5, 18);
        x.stroke(0, 0, false);
        x.trim();
        x.patch(0, 2);
        x.stroke(1, 11, true);
        x.roll(2);
        x.years(1, 3);
        String image = Due.all(x);
        int turn = x.image();
        x.hand(5);
        x.town(7);
        x.dough(7, 1);
        Due.rule(x, "moves 2;");
        x.said(0, 6, 1);
        x.roll(40);
        x.trim();
        Due.is("back()", x.back(), turn);
        Due.same("all", Due.all(x), image);
        Due.is("strength", x.ofHand(1), 4);
        Due.is("moves", x.moves(0, x.thick(), true), 18);
        Due.is("whose", x.whose(), x.of(5, 0) >= 18 ? 1 : 0);
        Due.is("no third hand", x.ofHand(2), -1);
        Due.is("no third town", x.ofTown(2), -2);
    }

    @Says(promise = 51, words = "BACK to THE IMAGE (it stays): TURN.")
    static void theImageStays() {
        RolledOut x = Due.made(1);
        x.roll(1);
        x.image();
        String image = Due.all(x);
        for (int i = 0; i < 3; i++) {
            x.dough(2, 900 + i);
            x.town(2);
            x.roll(35);
            Due.is("back()", x.back(), 1);
            Due.same("again", Due.all(x), image);
        }
        Due.is("back() at once", x.back(), 1);
        Due.same("alike", Due.all(x), image);
    }

    @Says(promise = 51, words = "BACK: all is so again.")
    static void stepsAheadOfTheImageCanBeTakenBack() {
        RolledOut x = Due.made(1);
        x.dough(2, 40);
        x.stroke(0, 2, true);
        x.stroke(0, 2, true);
        x.image();
        x.undo();
        x.undo();
        x.dough(2, 7);
        x.town(2);
        x.roll(31);
        x.back();
        Due.is("about(4)", x.about(4), 2);
        Due.is("of 2", x.of(2, 0), 10);
        Due.is("undo()", x.undo(), 1);
        Due.is("of 2", x.of(2, 0), 20);
        Due.is("undo()", x.undo(), 0);
        Due.is("what was told behind the image isn't", x.of(2, 0), 40);
        Due.is("no towns", x.about(1), 0);
        Due.is("undo()", x.undo(), -1);
        x.back();
        Due.is("the image's steps stay", x.about(4), 2);
        x.dough(2, 9);
        x.undo();
        x.undo();
        Due.is("told since", x.of(2, 0), 9);
        x.back();
        x.undo();
        Due.is("not told in the image", x.of(2, 0), 20);
    }

    @Says(promise = 51, words = "BACK: all is so again.")
    static void thirtyStepsAheadOfTheImageCanBeTakenBack() {
        RolledOut x = Due.made(1);
        for (int i = 0; i < 5; i++) {
            x.town(0);
        }
        x.town(11);
        for (int i = 0; i < 33; i++) {
            x.dough(i % 12, 10 + i);
            x.stroke(0, i % 12, true);
        }
        x.image();
        x.dough(0, 1);
        x.roll(50);
        x.back();
        for (int i = 0; i < 30; i++) {
            Due.is("stroke " + i, x.book(i, 2), 2 * ((i + 3) % 12) + 1);
        }
        Due.is("the sixth town", x.ofTown(5), 11);
        for (int i = 29; i >= 0; i--) {
            Due.is("undo()", x.undo(), i);
            Due.is("book", x.book(-1, 0), Math.min(30, i + 3));
        }
        Due.is("undo()", x.undo(), -1);
        Due.is("the sixth town", x.ofTown(5), 11);
        Due.is("the first stroke", x.book(0, 3), 5);
    }

    @Says(promise = 51, words = "BACK: all is so again.")
    static void whatWasSaidIsSaidAgain() {
        RolledOut x = Due.made(1);
        Due.read(x, "moves 7;");
        Due.read(x, "moves 8;");
        x.said(0, 5, 7);
        x.said(0, 6, 7);
        x.image();
        x.said(-1, 0, 0);
        x.said(0, 5, 8);
        Due.is("whose()", x.whose(), 2);
        x.back();
        Due.is("about(5)", x.about(5), 2);
        Due.is("whose()", x.whose(), 1);
        Due.is("a third", x.said(0, 7, 8), 3);
        Due.is("whose()", x.whose(), 0);
    }

    // ---- 52

    @Says(promise = 52, words = "6 bytes of the tape. -2 for others.")
    static void aboutOthers() {
        RolledOut x = new RolledOut();
        for (int what : new int[] {-1, 7, LOW, HIGH}) {
            Due.is("about(" + what + ")", x.about(what), -2);
        }
        int[] lump = {0, 0, 0, -1, 0, 0, 0};
        for (int what = 0; what < 7; what++) {
            Due.is("about(" + what + ")", x.about(what), lump[what]);
        }
    }

    @Says(promise = 52, words = "0 HANDS, 1 TOWNS, 2 TEXTS, 3 THE TEXT (NONE), 4 STEPS that can be taken back, 5 SAID, 6 bytes of the tape.")
    static void allAtTheirMost() {
        RolledOut x = Due.made(1, 2, 3, 4);
        for (int i = 0; i < 7; i++) {
            x.town(i);
        }
        for (int i = 0; i < 4; i++) {
            Due.read(x, "");
        }
        x.by(3);
        x.roll(60);
        for (int i = 0; i < 9; i++) {
            x.said(0, 0, 0);
        }
        for (int i = 0; i < 16; i++) {
            x.feed(0, 0, 0, 0, 0);
        }
        int[] most = {4, 6, 4, 3, 30, 8, 300};
        for (int what = 0; what < 7; what++) {
            Due.is("about(" + what + ")", x.about(what), most[what]);
        }
    }
}
