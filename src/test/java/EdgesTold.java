/** Boundary cases of what is told: promises 1 to 9, without the language of the texts. */
final class EdgesTold {
    private static final int LOW = Integer.MIN_VALUE;
    private static final int HIGH = Integer.MAX_VALUE;

    private EdgesTold() {
    }

    // ---- 1

    @Says(promise = 1, words = "DOUGH (told: 0 .. 999; at first 20)")
    static void eachCellHas20AtFirst() {
        Due.row(new RolledOut(), 20, 20, 20, 20, 20, 20, 20, 20, 20, 20, 20, 20);
    }

    @Says(promise = 1, words = "TORN or not (at first not)")
    static void noCellIsTornAtFirst() {
        RolledOut x = new RolledOut();
        Due.is("is(4)", x.is(4), 0);
        for (int cell = 0; cell < 12; cell++) {
            Due.is("of(" + cell + ", 1)", x.of(cell, 1), 0);
        }
    }

    @Says(promise = 1, words = "EDGE: how much hangs over, BALL: how much was trimmed (at first 0)")
    static void nothingHangsOverAndNothingIsTrimmedAtFirst() {
        RolledOut x = new RolledOut();
        Due.is("is(2)", x.is(2), 0);
        Due.is("is(3)", x.is(3), 0);
    }

    @Says(promise = 1, words = "TURN 0 .. 9999 (at first 0)")
    static void itIsTurn0AtFirst() {
        Due.is("is(0)", new RolledOut().is(0), 0);
    }

    @Says(promise = 1, words = "X: at first 281")
    static void xIs281AtFirst() {
        Due.is("is(1)", new RolledOut().is(1), 281);
    }

    @Says(promise = 1, words = "THE TEXT (told; at first none)")
    static void noTextRulesAtFirst() {
        RolledOut x = Due.made(9);
        Due.is("about(3)", x.about(3), -1);
        Due.is("moves without", x.moves(0, 5, true), 10);
        Due.is("tears without", x.of(5, 3), 3);
    }

    @Says(promise = 1, words = "A lump; THE IMAGE is this.")
    static void theImageOfANewObjectIsTheLump() {
        RolledOut x = new RolledOut();
        String lump = Due.all(x);
        Due.is("carried()", x.carried(), 0);
        Due.is("back()", x.back(), 0);
        Due.same("behind back", Due.all(x), lump);
        x.hand(3);
        x.town(0);
        x.dough(7, 1);
        Due.rule(x, "moves dough;");
        x.said(0, 1, 2);
        x.stroke(0, 0, false);
        x.trim();
        x.patch(0, 3);
        x.roll(60);
        x.years(7, 40);
        Due.is("back()", x.back(), 0);
        Due.same("behind all that", Due.all(x), lump);
    }

    // ---- 2

    @Says(promise = 2, words = "STRENGTH 1 .. 9.")
    static void strengths1And9AreTheLast() {
        RolledOut x = new RolledOut();
        Due.is("hand(1)", x.hand(1), 0);
        Due.is("hand(9)", x.hand(9), 1);
        Due.is("ofHand(0)", x.ofHand(0), 1);
        Due.is("ofHand(1)", x.ofHand(1), 9);
    }

    @Says(promise = 2, words = "`int hand(int strength)`: A HAND: its number. NONE for others")
    static void otherStrengthsAreNoHands() {
        RolledOut x = new RolledOut();
        for (int strength : new int[] {0, 10, -1, LOW, HIGH, 256 + 5}) {
            Due.is("hand(" + strength + ")", x.hand(strength), -1);
        }
        Due.is("none came", x.about(0), 0);
        Due.is("the first has number 0 yet", x.hand(5), 0);
    }

    @Says(promise = 2, words = "or if there are 4.")
    static void aFifthHandIsNone() {
        RolledOut x = Due.made(1, 2, 3, 4);
        Due.is("a fifth", x.hand(5), -1);
        Due.is("about(0)", x.about(0), 4);
        Due.is("ofHand(3)", x.ofHand(3), 4);
        Due.is("ofHand(4)", x.ofHand(4), -1);
    }

    // ---- 3

    @Says(promise = 3, words = "DOUGH (told: 0 .. 999")
    static void from0To999CanBeTold() {
        RolledOut x = new RolledOut();
        Due.is("dough(4, 0)", x.dough(4, 0), true);
        Due.is("dough(5, 999)", x.dough(5, 999), true);
        Due.is("of(4, 0)", x.of(4, 0), 0);
        Due.is("of(5, 0)", x.of(5, 0), 999);
    }

    @Says(promise = 3, words = "CELLS 0 .. 11 in a row")
    static void cells0And11AreTheLast() {
        RolledOut x = new RolledOut();
        Due.is("dough(0, 1)", x.dough(0, 1), true);
        Due.is("dough(11, 2)", x.dough(11, 2), true);
        Due.row(x, 1, 20, 20, 20, 20, 20, 20, 20, 20, 20, 20, 2);
    }

    @Says(promise = 3, words = "DOUGH told: true. False for others.")
    static void otherDoughAndOtherCellsAreNotTold() {
        RolledOut x = new RolledOut();
        for (int dough : new int[] {-1, 1000, LOW, HIGH}) {
            Due.is("dough(3, " + dough + ")", x.dough(3, dough), false);
        }
        for (int cell : new int[] {-1, 12, LOW, HIGH}) {
            Due.is("dough(" + cell + ", 5)", x.dough(cell, 5), false);
        }
        Due.row(x, 20, 20, 20, 20, 20, 20, 20, 20, 20, 20, 20, 20);
    }

    @Says(promise = 3, words = "DOUGH told: true.")
    static void toldDoughLeavesTheCellTornAndIsNoStep() {
        RolledOut x = Due.made(1);
        x.dough(3, 1);
        x.stroke(0, 3, true);
        x.dough(3, 999);
        Due.is("torn yet", x.of(3, 1), 1);
        x.dough(4, 0);
        Due.is("no other tears", x.is(4), 8);
        Due.is("one step", x.about(4), 1);
    }

    // ---- 4

    @Says(promise = 4, words = "A TOWN: its number. NONE for others")
    static void townsOfOtherCellsAreNone() {
        RolledOut x = new RolledOut();
        for (int cell : new int[] {-1, 12, LOW, HIGH}) {
            Due.is("town(" + cell + ")", x.town(cell), -1);
        }
        Due.is("none came", x.about(1), 0);
        Due.is("town(0)", x.town(0), 0);
        Due.is("town(11)", x.town(11), 1);
        Due.is("in 0", x.of(0, 2), 1);
        Due.is("in 11", x.of(11, 2), 2);
    }

    @Says(promise = 4, words = "NONE for others, or if there are 6.")
    static void aSeventhTownIsNone() {
        RolledOut x = new RolledOut();
        for (int i = 0; i < 6; i++) {
            Due.is("town " + i, x.town(4), i);
        }
        Due.is("a seventh", x.town(4), -1);
        Due.is("about(1)", x.about(1), 6);
        Due.is("all six in one cell", x.of(4, 2), 63);
    }

    @Says(promise = 4, words = "TOWNS 0 .. 5 (told one by one): in a CELL, or fallen over the edge.")
    static void fallenTownsCountAmongTheSix() {
        RolledOut x = Due.ruled("moves dough;");
        x.town(0);
        x.stroke(0, 0, false);
        Due.is("fallen", x.fallen(), 1);
        for (int i = 1; i < 6; i++) {
            Due.is("town " + i, x.town(0), i);
        }
        Due.is("a seventh", x.town(0), -1);
        Due.is("a cell without dough has towns too", x.of(0, 2), 62);
    }

    // ---- 5, 6

    @Says(promise = 5, words = "Twenty bytes come behind the tape, the highest of a first: how many it has.")
    static void theHighestByteOfAIsTheFirst() {
        RolledOut x = new RolledOut();
        Due.is("trim; and 15 blanks", x.feed(0x7472696d, 0x3b202020, 0x20202020, 0x20202020, 0x20202020), 20);
        Due.is("behind it", x.feed(0x20202020, 0x20202020, 0x20202020, 0x20202020, 0x202020ff), 40);
        Due.is("the lowest of e is the last", x.text(), -1);
        Due.is("its place", x.fault(1), 39);
        x.feed(0xff202020, 0, 0, 0, 0);
        x.text();
        Due.is("the highest of a", x.fault(1), 0);
        x.feed(0x20ff2020, 0, 0, 0, 0);
        x.text();
        Due.is("the next of a", x.fault(1), 1);
        x.feed(0x20202020, 0x202020ff, 0, 0, 0);
        x.text();
        Due.is("the lowest of b", x.fault(1), 7);
        x.feed(0x20202020, 0x20202020, 0x80202020, 0, 0);
        x.text();
        Due.is("the highest of c", x.fault(1), 8);
        x.feed(0x20202020, 0x20202020, 0x20202020, 0x2020f020, 0);
        x.text();
        Due.is("the third of d", x.fault(1), 14);
    }

    @Says(promise = 5, words = "NONE, and none come, if there would be more than 300.")
    static void threeHundredBytesAreTheMost() {
        RolledOut x = new RolledOut();
        for (int i = 1; i <= 15; i++) {
            Due.is("feed " + i, x.feed(0x20202020, 0x20202020, 0x20202020, 0x20202020, 0x20202020), 20 * i);
        }
        Due.is("beyond 300", x.feed(-1, -1, -1, -1, -1), -1);
        Due.is("about(6)", x.about(6), 300);
        Due.is("none of them came", x.text(), 0);
    }

    @Says(promise = 5, words = "NONE, and none come, if there would be more than 300.")
    static void twentyBehind280ComeAndBehind281DoNot() {
        RolledOut x = new RolledOut();
        for (int i = 1; i <= 15; i++) {
            x.feed(0x20202020, 0x20202020, 0x20202020, 0x20202020, 0x20202020);
        }
        x.end(281);
        Due.is("behind 281", x.feed(0, 0, 0, 0, 0), -1);
        Due.is("about(6)", x.about(6), 281);
        x.end(280);
        Due.is("behind 280", x.feed(0, 0, 0, 0, 0), 300);
    }

    @Says(promise = 6, words = "The tape has its first n bytes alone: n.")
    static void theTapeMayEndAtNoneAndAtAll() {
        RolledOut x = new RolledOut();
        Due.is("end(0) of none", x.end(0), 0);
        x.feed(0x7472696d, 0x3b747269, 0x6d3b0000, 0, 0);
        Due.is("end(20) of 20", x.end(20), 20);
        Due.is("end(10)", x.end(10), 10);
        Due.is("about(6)", x.about(6), 10);
        Due.is("what comes then is behind these", x.feed(0x7472696d, 0x3bff0000, 0, 0, 0), 30);
        Due.is("text()", x.text(), -1);
        Due.is("fault(1)", x.fault(1), 15);
        x.feed(0, 0, 0, 0, 0);
        Due.is("end(0)", x.end(0), 0);
        Due.is("text() of none", x.text(), 0);
    }

    @Says(promise = 6, words = "NONE, and nothing is done, if it has not so many, or n is below 0.")
    static void theTapeDoesNotEndBeyondItsBytes() {
        RolledOut x = new RolledOut();
        Due.is("end(1) of none", x.end(1), -1);
        x.feed(0, 0, 0, 0, 0);
        for (int n : new int[] {21, -1, LOW, HIGH, 300}) {
            Due.is("end(" + n + ")", x.end(n), -1);
        }
        Due.is("about(6)", x.about(6), 20);
        x.end(7);
        Due.is("what is cut off doesn't come back", x.end(8), -1);
        Due.is("about(6)", x.about(6), 7);
    }

    @Says(promise = 6, words = "The tape has its first n bytes alone")
    static void whatIsCutOffIsNotRead() {
        String[] texts = {"hand 99;", "trimming;", "moves if 1<=2", "trim;;;;;", "hand 5;"};
        int[] ends = {6, 4, 11, 5, 6};
        int[] faults = {1, 1, 1, 0, 1};
        int[] places = {6, 4, 11, -1, 6};
        for (int i = 0; i < texts.length; i++) {
            RolledOut x = new RolledOut();
            Due.put(x, texts[i]);
            Due.is("end(" + ends[i] + ") of [" + texts[i] + "]", x.end(ends[i]), ends[i]);
            Due.is("text()", x.text(), faults[i] == 0 ? 0 : -1);
            Due.is("fault(0)", x.fault(0), faults[i]);
            Due.is("fault(1)", x.fault(1), places[i]);
        }
    }

    // ---- 7, 8, 9

    @Says(promise = 7, words = "The tape (empty then) is a TEXT: its number.")
    static void theEmptyTapeIsATextAndTheTapeIsEmptyThen() {
        RolledOut x = new RolledOut();
        Due.is("text() of none", x.text(), 0);
        Due.is("it plays", x.played(0), -1);
        Due.is("text()", Due.read(x, "town 3;"), 1);
        Due.is("about(6)", x.about(6), 0);
        Due.is("the tape isn't read again", x.text(), 2);
        Due.is("played(2)", x.played(2), -1);
        Due.is("no town", x.about(1), 0);
    }

    @Says(promise = 7, words = "TEXTS 0 .. 3: of up to 300 bytes.")
    static void aTextMayHave300Bytes() {
        RolledOut x = new RolledOut();
        String sum = "moves 1" + "+1".repeat(146) + ";";
        Due.is("its length", sum.length(), 300);
        Due.is("text()", Due.read(x, sum), 0);
        x.by(0);
        x.hand(1);
        x.dough(0, 999);
        Due.is("moves", x.moves(0, 0, true), 147);
        Due.is("300 blanks", Due.read(x, " ".repeat(300)), 1);
        for (String one : new String[] {";", "1 ", "(", "a", "9", "<", "\u00ff"}) {
            Due.is("300 bytes of " + one, Due.read(x, one.repeat(300 / one.length())), -1);
            Due.is("fault(1)", x.fault(1), 0);
        }
        Due.is("a fault at the last byte", Due.read(x, " ".repeat(299) + ";"), -1);
        Due.is("fault(1)", x.fault(1), 299);
        Due.is("a fault at the end", Due.read(x, " ".repeat(296) + "trim"), -1);
        Due.is("fault(1)", x.fault(1), 300);
    }

    @Says(promise = 7, words = "The tape (empty then) is a TEXT: its number.")
    static void aShorterTextHasNothingOfALongerOne() {
        RolledOut x = new RolledOut();
        Due.read(x, "moves 3;tears 9;" + "dough 9 at 5;".repeat(12));
        Due.read(x, "dough 1 at 5;".repeat(4));
        Due.is("played(1)", x.played(1), -1);
        Due.is("of(5, 0)", x.of(5, 0), 1);
        Due.is("played(0)", x.played(0), -1);
        Due.is("of(5, 0)", x.of(5, 0), 9);
        x.hand(1);
        x.by(1);
        Due.is("no moves", x.moves(0, 4, true), 10);
        Due.is("no tears", x.of(4, 3), 3);
    }

    @Says(promise = 7, words = "NONE: it has a FAULT")
    static void aFaultyTextTakesNoNumber() {
        RolledOut x = new RolledOut();
        Due.is("a fault", Due.read(x, "moves 1; trim"), -1);
        Due.is("about(2)", x.about(2), 0);
        Due.is("by(0)", x.by(0), false);
        Due.is("the tape is empty", x.about(6), 0);
        Due.is("the next", Due.read(x, "tears 1;"), 0);
        x.hand(1);
        x.by(0);
        Due.is("nothing of the faulty one is left", x.moves(0, 0, true), 10);
    }

    @Says(promise = 7, words = "or (the tape stays) there are 4.")
    static void aFifthTextIsNotRead() {
        RolledOut x = new RolledOut();
        for (int i = 0; i < 4; i++) {
            Due.is("text " + i, Due.read(x, "town " + i + ";"), i);
        }
        Due.is("a fifth", Due.read(x, "town 9; ;"), -1);
        Due.is("the tape stays", x.about(6), 9);
        Due.is("about(2)", x.about(2), 4);
        Due.is("fault(0) of the fourth yet", x.fault(0), 0);
        Due.is("fault(1)", x.fault(1), -1);
        Due.is("played(3)", x.played(3), -1);
        Due.is("the fourth is as it was", x.ofTown(0), 3);
        x.back();
        Due.is("the tape that stayed is read", x.text(), -1);
        Due.is("fault(1)", x.fault(1), 8);
    }

    @Says(promise = 8, words = "NONE for others, and ahead of any.")
    static void noFaultIsToldAheadOfAnyText() {
        RolledOut x = new RolledOut();
        for (int what : new int[] {0, 1, 2, -1, LOW, HIGH}) {
            Due.is("fault(" + what + ")", x.fault(what), -1);
        }
        Due.put(x, "bad");
        Due.is("fed but not read", x.fault(0), -1);
        x.text();
        Due.is("read", x.fault(0), 1);
    }

    @Says(promise = 8, words = "0 its FAULT (0 without), 1 its place (NONE without). NONE for others")
    static void aTextWithoutAFaultHas0AndNone() {
        RolledOut x = new RolledOut();
        Due.read(x, "hand 0;");
        Due.is("fault(0)", x.fault(0), 2);
        Due.is("fault(1)", x.fault(1), 5);
        for (int what : new int[] {2, -1, LOW, HIGH}) {
            Due.is("fault(" + what + ")", x.fault(what), -1);
        }
        Due.read(x, "hand 1;");
        Due.is("fault(0) without", x.fault(0), 0);
        Due.is("fault(1) without", x.fault(1), -1);
        Due.is("fault(2) without", x.fault(2), -1);
    }

    @Says(promise = 8, words = "Of the latest text that was read")
    static void theLatestFaultIsTold() {
        RolledOut x = new RolledOut();
        Due.read(x, "trim");
        Due.read(x, "hand 10;");
        Due.is("fault(0)", x.fault(0), 2);
        Due.is("fault(1)", x.fault(1), 5);
        Due.read(x, "  at");
        Due.is("fault(0)", x.fault(0), 1);
        Due.is("fault(1)", x.fault(1), 2);
    }

    @Says(promise = 9, words = "THE TEXT (NONE: none): true.")
    static void noneRulesAgain() {
        RolledOut x = Due.ruled("moves 1;tears 9;");
        Due.is("moves", x.moves(0, 0, true), 1);
        Due.is("by(NONE)", x.by(-1), true);
        Due.is("about(3)", x.about(3), -1);
        Due.is("moves without", x.moves(0, 0, true), 10);
        Due.is("tears without", x.of(0, 3), 3);
        Due.is("by(NONE) again", x.by(-1), true);
    }

    @Says(promise = 9, words = "`boolean by(int text)`: THE TEXT (NONE: none): true. False for others.")
    static void textsThatAreNotThereDoNotRule() {
        RolledOut x = new RolledOut();
        Due.is("by(0) of none", x.by(0), false);
        Due.read(x, "tears 5;");
        Due.read(x, "tears 6;");
        Due.is("by(1)", x.by(1), true);
        for (int text : new int[] {2, 3, 4, -2, LOW, HIGH}) {
            Due.is("by(" + text + ")", x.by(text), false);
        }
        Due.is("about(3)", x.about(3), 1);
        Due.is("tears", x.of(0, 3), 6);
        x.back();
        Due.is("by(0) of the lump", x.by(0), false);
    }
}
