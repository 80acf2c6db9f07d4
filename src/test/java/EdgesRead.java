/** Boundary cases of the language of the texts, up to their faults: promises 7 and 8. */
final class EdgesRead {
    private EdgesRead() {
    }

    private static void fine(String text) {
        Due.fault(text, 0, -1);
    }

    private static String many(String one, int times) {
        return one.repeat(times);
    }

    // ---- tokens

    @Says(promise = 7, words = "TOKENS, blanks (32, 10) aside")
    static void blanksMayStandBetweenAllTokens() {
        fine("");
        fine(" ");
        fine("\n");
        fine("\n trim\n\n;  \n");
        fine(" patch\n 5 at\n11 ;trim;");
        fine(" moves if not 1 <= 2\nor 3 # 4 then ( 5 ) else - 6 end ;");
    }

    @Says(promise = 8, words = "TOKENS, blanks (32, 10) aside")
    static void otherBytesAreNoBlanks() {
        for (char other : new char[] {0, 9, 11, 12, 13, 31, 33, 127, 128, 160, 255}) {
            Due.fault(other + "trim;", 1, 0);
            Due.fault("trim" + other + ";", 1, 4);
            Due.fault("trim;" + other, 1, 5);
        }
    }

    @Says(promise = 8, words = "letters a .. z, A .. Z one behind the other (one TOKEN)")
    static void aWordIsAllItsLetters() {
        Due.fault("trimtrim;", 1, 0);
        Due.fault("trima;", 1, 0);
        Due.fault("trimz;", 1, 0);
        Due.fault("trimA;", 1, 0);
        Due.fault("trimZ;", 1, 0);
        Due.fault("Trim;", 1, 0);
        Due.fault("TRIM;", 1, 0);
        Due.fault("tri;", 1, 0);
        Due.fault("tri m;", 1, 0);
        Due.fault("t;", 1, 0);
        Due.fault("moves strengthen;", 1, 6);
        Due.fault("moves if 1<2 thenelse 1", 1, 13);
    }

    @Says(promise = 8, words = "letters a .. z, A .. Z one behind the other (one TOKEN)")
    static void theSignsBesideTheLettersAreNone() {
        for (char beside : new char[] {'@', '[', '`', '{', '_', 192, 225}) {
            Due.fault("trim" + beside + ";", 1, 4);
            Due.fault(beside + "trim;", 1, 0);
        }
    }

    @Says(promise = 7, words = "digits likewise (NUMBERS, 0 .. 9999)")
    static void lettersAndDigitsAreTokensOfTheirOwn() {
        fine("hand9;");
        fine("dough5at5;");
        fine("left11by3;");
        fine("moves if1<2then3else4end;");
        Due.fault("hand 1 2;", 1, 7);
        Due.fault("hand 1:", 1, 6);
        Due.fault("hand 1.5;", 1, 6);
    }

    @Says(promise = 7, words = "digits likewise (NUMBERS, 0 .. 9999)")
    static void zerosAheadOfANumberAreNothing() {
        fine("hand 09;");
        fine("moves 000009999;");
        RolledOut x = new RolledOut();
        Due.read(x, "hand " + many("0", 280) + "7;");
        Due.is("played", x.played(0), -1);
        Due.is("ofHand(0)", x.ofHand(0), 7);
        Due.fault("hand 000;", 2, 5);
        Due.fault("hand 0010;", 2, 5);
    }

    @Says(promise = 8, words = "<= >= < > = # + - * / ( ) ; (the longest)")
    static void theLongestSignIsTaken() {
        String then = " then 1 else 2 end;";
        for (String sign : new String[] {"<", "<=", ">", ">=", "=", "#"}) {
            fine("moves if 1" + sign + "2" + then);
        }
        Due.fault("moves if 1< =2" + then, 1, 12);
        Due.fault("moves if 1> =2" + then, 1, 12);
        Due.fault("moves if 1<==2" + then, 1, 12);
        Due.fault("moves if 1=<2" + then, 1, 11);
        Due.fault("moves if 1=>2" + then, 1, 11);
        Due.fault("moves if 1==2" + then, 1, 11);
        Due.fault("moves if 1<>2" + then, 1, 11);
        Due.fault("moves if 1#=2" + then, 1, 11);
        Due.fault("moves if 1<", 1, 11);
        Due.fault("moves if 1<=", 1, 12);
    }

    @Says(promise = 8, words = "1 it can't stand there, or is none.")
    static void otherSignsAreNone() {
        for (char none : "!\"$%&',.:?\\^|}~".toCharArray()) {
            Due.fault("trim;" + none, 1, 5);
            Due.fault("moves 1" + none + "1;", 1, 7);
        }
    }

    // ---- clauses

    @Says(promise = 7, words = "{CLAUSE}, 24 at most")
    static void twentyFourClausesAreFine() {
        fine(many("trim;", 24));
        fine("moves 1;tears 1;" + many("trim;", 22));
        fine(many("trim;", 24) + "  \n");
        RolledOut x = new RolledOut();
        Due.read(x, many("town 1;", 6) + many("dough 1 at 1;", 17) + "town 2;");
        Due.is("all are played", x.played(0), 23);
    }

    @Says(promise = 8, words = "6 the 25th CLAUSE (at its first TOKEN).")
    static void theTwentyFifthClauseIsAFault() {
        Due.fault(many("trim;", 25), 6, 120);
        Due.fault(many("trim;", 24) + " \n hand 77;", 6, 123);
        Due.fault(many("trim;", 24) + "left", 6, 120);
        Due.fault(many("trim;", 24) + "moves 1;", 6, 120);
        Due.fault("moves 1;tears 1;" + many("trim;", 23), 6, 126);
        Due.fault(many("trim;", 30), 6, 120);
    }

    @Says(promise = 8, words = "of one the least: 1 it can't stand there")
    static void whatBeginsNoClauseIs1At25Too() {
        for (String none : new String[] {"at", "by", "7", "10000", ";", "@", "strength", "end", "Hand"}) {
            Due.fault(none, 1, 0);
            Due.fault("trim;" + none, 1, 5);
            Due.fault(many("trim;", 24) + none, 1, 120);
        }
    }

    @Says(promise = 8, words = "of the end at the length")
    static void theEndStandsAtTheLength() {
        Due.fault("trim", 1, 4);
        Due.fault("trim \n ", 1, 7);
        Due.fault("hand", 1, 4);
        Due.fault("hand 5", 1, 6);
        Due.fault("moves", 1, 5);
        Due.fault("moves 1+ ", 1, 9);
        Due.fault("dough 5 at", 1, 10);
        Due.fault("moves (1", 1, 8);
        Due.fault("moves if 1<2 then 1 else 2", 1, 26);
        Due.fault("moves " + many("(", 8), 1, 14);
    }

    @Says(promise = 8, words = "FAULTS, the first as TOKENS are come to, at the TOKEN's first byte")
    static void theFirstFaultIsTold() {
        Due.fault("hand 0; @", 2, 5);
        Due.fault("@ hand 0;", 1, 0);
        Due.fault("tears  who + 10000;", 5, 7);
        Due.fault("tears  10000 + who;", 2, 7);
        Due.fault("moves 1; moves 10000;", 4, 9);
        Due.fault("dough  1000 by 12;", 2, 7);
        Due.fault("dough 999 by 12;", 1, 10);
        Due.fault("left 12 at 4;", 2, 5);
    }

    // ---- numbers

    private static void numbers(String ahead, String behind, int least, int most) {
        fine(ahead + least + behind);
        fine(ahead + most + behind);
        Due.fault(ahead + (most + 1) + behind, 2, ahead.length());
        if (least > 0) {
            Due.fault(ahead + (least - 1) + behind, 2, ahead.length());
        }
        Due.fault(ahead + "10000" + behind, 2, ahead.length());
        Due.fault(ahead + (4294967296L + most) + behind, 2, ahead.length());
        Due.fault(ahead + "18446744073709551617" + behind, 2, ahead.length());
        Due.fault(ahead + "-1" + behind, 1, ahead.length());
        Due.fault(ahead + "(1)" + behind, 1, ahead.length());
        Due.fault(ahead + "turn" + behind, 1, ahead.length());
    }

    @Says(promise = 8, words = "STRENGTH 1 .. 9, DOUGH of dough 0 .. 999")
    static void strengthsAreFrom1To9() {
        numbers("hand ", ";", 1, 9);
    }

    @Says(promise = 8, words = "DOUGH of dough 0 .. 999")
    static void doughIsFrom0To999() {
        numbers("dough ", " at 0;", 0, 999);
    }

    @Says(promise = 8, words = "of patch 1 .. 99")
    static void patchesAreFrom1To99() {
        numbers("patch ", " at 0;", 1, 99);
    }

    @Says(promise = 8, words = "CELLS 0 .. 11, HANDS 0 .. 3, TURNS 1 .. 60")
    static void cellsAreFrom0To11() {
        numbers("dough 5 at ", ";", 0, 11);
        numbers("town ", ";", 0, 11);
        numbers("left ", " by 0;", 0, 11);
        numbers("right ", " by 0;", 0, 11);
        numbers("patch 5 at ", ";", 0, 11);
    }

    @Says(promise = 8, words = "HANDS 0 .. 3, TURNS 1 .. 60")
    static void handsAreFrom0To3() {
        numbers("left 5 by ", ";", 0, 3);
        numbers("right 5 by ", ";", 0, 3);
    }

    @Says(promise = 8, words = "TURNS 1 .. 60")
    static void turnsAreFrom1To60() {
        numbers("turn ", ";", 1, 60);
    }

    @Says(promise = 8, words = "2 a NUMBER that isn't one of those told (above 9999;")
    static void numbersInASumAreUpTo9999() {
        fine("moves 0;");
        fine("moves 9999;");
        Due.fault("moves 10000;", 2, 6);
        Due.fault("moves 99990;", 2, 6);
        Due.fault("moves 4294967297;", 2, 6);
        Due.fault("moves 18446744073709551617;", 2, 6);
        Due.fault("moves " + many("9", 290) + ";", 2, 6);
        Due.fault("moves 1+2*(3-10000);", 2, 13);
        Due.fault("tears if 10000<1 then 1 else 2 end;", 2, 9);
        Due.fault("tears sheet 10000;", 2, 12);
    }

    // ---- shapes of clauses and sums

    @Says(promise = 8, words = "or patch NUMBER at NUMBER ; (DOUGH, CELL) or turn NUMBER ;.")
    static void eachClauseHasJustItsTokens() {
        Due.fault("hand;", 1, 4);
        Due.fault("town;", 1, 4);
        Due.fault("turn;", 1, 4);
        Due.fault("trim 1;", 1, 5);
        Due.fault("dough 5;", 1, 7);
        Due.fault("dough at 5;", 1, 6);
        Due.fault("dough 5 5;", 1, 8);
        Due.fault("dough 5 by 5;", 1, 8);
        Due.fault("dough 5 at;", 1, 10);
        Due.fault("patch 5 by 5;", 1, 8);
        Due.fault("left 5 at 0;", 1, 7);
        Due.fault("right 5 at 0;", 1, 8);
        Due.fault("right 5;", 1, 7);
        Due.fault("left by 0;", 1, 5);
        Due.fault("turn 5 trim;", 1, 7);
        Due.fault("trim;;", 1, 5);
        Due.fault("trim trim;", 1, 5);
        Due.fault("moves;", 1, 5);
        Due.fault("tears;", 1, 5);
    }

    @Says(promise = 8, words = "ASK: not ASK, or SUM one of < <= > >= = # (unlike) SUM.")
    static void anAskIsNoSumAndASumNoAsk() {
        String then = " then 1 else 2 end;";
        Due.fault("moves 1<2;", 1, 7);
        Due.fault("moves not 1;", 1, 6);
        Due.fault("moves 1 or 2;", 1, 8);
        Due.fault("moves if 1" + then, 1, 11);
        Due.fault("moves if (1<2)" + then, 1, 11);
        Due.fault("moves if 1<2<3" + then, 1, 12);
        Due.fault("moves if not not" + then, 1, 17);
        Due.fault("moves if 1<2 or" + then, 1, 16);
        Due.fault("moves if 1<2 and or 1<2" + then, 1, 17);
        Due.fault("moves if 1<2 then 3<4 else 2 end;", 1, 19);
        fine("moves if (1)<2" + then);
        fine("moves if not 1<2 or not not 1=2 and 3#4" + then);
    }

    @Says(promise = 8, words = "if EITHER then SUM else SUM end")
    static void anIfHasThenElseAndEnd() {
        Due.fault("moves if 1<2 1 else 2 end;", 1, 13);
        Due.fault("moves if 1<2 then 1 end;", 1, 20);
        Due.fault("moves if 1<2 then 1 else 2;", 1, 26);
        Due.fault("moves if 1<2 then else 2 end;", 1, 18);
        Due.fault("moves if 1<2 then 1 else end;", 1, 25);
        Due.fault("moves if 1<2 else 1 then 2 end;", 1, 13);
        Due.fault("moves if then 1 else 2 end;", 1, 9);
        Due.fault("moves then;", 1, 6);
        Due.fault("moves 1 end;", 1, 8);
    }

    @Says(promise = 8, words = "ONE: NUMBER, NAME, ( SUM ), - ONE, square ONE (by itself), sheet ONE")
    static void eachOneIsWhole() {
        Due.fault("moves ();", 1, 7);
        Due.fault("moves (1;", 1, 8);
        Due.fault("moves 1);", 1, 7);
        Due.fault("moves 1 2;", 1, 8);
        Due.fault("moves 1 turn;", 1, 8);
        Due.fault("moves +1;", 1, 6);
        Due.fault("moves *1;", 1, 6);
        Due.fault("moves 1+;", 1, 8);
        Due.fault("moves 1*;", 1, 8);
        Due.fault("moves 1-;", 1, 8);
        Due.fault("moves 1+*2;", 1, 8);
        Due.fault("moves square;", 1, 12);
        Due.fault("moves square+1;", 1, 12);
        Due.fault("moves sheet;", 1, 11);
        Due.fault("moves sheet*2;", 1, 11);
        Due.fault("moves -;", 1, 7);
        fine("moves 1--1;");
        fine("moves 1*-1;");
        fine("moves sheet-square sheet 3;");
    }

    // ---- 3 to 5

    @Says(promise = 8, words = "3 the 9th of ( not square sheet if and - (of one ONE) that are open around one another (at it).")
    static void eightMayBeOpenAndTheNinthIsAFault() {
        fine("moves " + many("(", 8) + "1" + many(")", 8) + ";");
        Due.fault("moves " + many("(", 9) + "1" + many(")", 9) + ";", 3, 14);
        fine("moves " + many("square ", 8) + "1;");
        Due.fault("moves " + many("square ", 9) + "1;", 3, 62);
        fine("moves " + many("sheet ", 8) + "1;");
        Due.fault("moves " + many("sheet ", 9) + "1;", 3, 54);
        fine("moves " + many("-", 8) + "1;");
        Due.fault("moves " + many("-", 9) + "1;", 3, 14);
        fine("moves if " + many("not ", 7) + "1<2 then 1 else 2 end;");
        Due.fault("moves if " + many("not ", 8) + "1<2 then 1 else 2 end;", 3, 37);
        fine("moves " + many("if 1<2 then ", 8) + "1" + many(" else 2 end", 8) + ";");
        Due.fault("moves " + many("if 1<2 then ", 9) + "1", 3, 102);
        Due.fault("moves " + many("if ", 9) + "1", 3, 30);
    }

    @Says(promise = 8, words = "3 the 9th of ( not square sheet if and - (of one ONE) that are open around one another (at it).")
    static void allKindsCountTogether() {
        String eight = "(-square sheet if not (-";
        fine("moves " + eight + "1)<2 then 3 else 4 end);");
        for (String ninth : new String[] {"(", "-", "square ", "sheet ", "if "}) {
            Due.fault("moves " + eight + ninth + "1", 3, 6 + eight.length());
        }
        Due.fault("tears " + many("(", 7) + "if not", 3, 16);
        fine("tears " + many("(", 6) + "if not 1=1 then 1 else 1 end" + many(")", 6) + ";");
    }

    @Says(promise = 8, words = "that are open around one another (at it).")
    static void whatIsClosedIsNotOpen() {
        fine("moves " + many("(1)+", 20) + "1;");
        fine("moves " + many("-1+", 20) + "1;");
        fine("moves " + many("square 1*", 12) + "1;");
        fine("moves " + many("(", 7) + "(1)+(2)+-3+square 4" + many(")", 7) + ";");
        fine("moves " + many("(", 7) + "if 1<2 then 3 else 4 end+(5)" + many(")", 7) + ";");
        fine("moves (if not not not 1<2 and not not 1<2 then -1 else --2 end);");
        fine("moves " + many("(", 7) + "if 1<2 and 1<2 then 3 else 4 end" + many(")", 7) + ";");
        Due.fault("moves " + many("(", 7) + "(1)+((", 3, 18);
    }

    @Says(promise = 8, words = "that are open around one another (at it).")
    static void anIfIsOpenUpToItsEnd() {
        Due.fault("moves " + many("(", 7) + "if (", 3, 16);
        Due.fault("moves " + many("(", 7) + "if 1<-", 3, 18);
        Due.fault("moves " + many("(", 7) + "if 1<2 or not", 3, 23);
        Due.fault("moves " + many("(", 7) + "if 1<2 then (", 3, 25);
        Due.fault("moves " + many("(", 7) + "if 1<2 then 1 else (", 3, 32);
    }

    @Says(promise = 8, words = "and - (of one ONE)")
    static void aMinusOfTwoIsNotOpen() {
        fine("moves 1" + many("-1", 100) + ";");
        fine("moves 1" + many("-", 9) + "1;");
        Due.fault("moves 1" + many("-", 10) + "1;", 3, 16);
        fine("moves " + many("(", 8) + "1-1" + many(")", 8) + ";");
        Due.fault("moves " + many("(", 8) + "1--1", 3, 16);
    }

    @Says(promise = 8, words = "4 moves, tears for the second time (at it).")
    static void eachLawMayStandOnce() {
        fine("moves 1;tears 1;");
        fine("tears 1;trim;moves 1;");
        Due.fault("moves 1;moves 2;", 4, 8);
        Due.fault("tears 1;tears 2;", 4, 8);
        Due.fault("moves 1;tears 1; moves", 4, 17);
        Due.fault("moves 1;trim;tears 1;tears", 4, 21);
        RolledOut x = new RolledOut();
        Due.is("each text by itself", Due.read(x, "moves 1;"), 0);
        Due.is("and the next", Due.read(x, "moves 1;"), 1);
    }

    @Says(promise = 8, words = "of one the least: 1 it can't stand there")
    static void ofOneTokenTheLeastFaultIsTold() {
        Due.fault("moves 1 moves 2;", 1, 8);
        Due.fault("trim 10000;", 1, 5);
        Due.fault("hand 5 10000;", 1, 7);
        Due.fault("tears 1 who;", 1, 8);
        Due.fault("hand who;", 1, 5);
        Due.fault("moves " + many("(", 8) + "1(", 1, 15);
        Due.fault("moves " + many("(", 8) + "1 square", 1, 16);
        Due.fault("moves " + many("(", 8) + "not", 1, 14);
        Due.fault("moves 1;" + many("trim;", 23) + "moves 1;", 4, 123);
        Due.fault("tears 1;" + many("trim;", 23) + "tears 1;", 4, 123);
        Due.fault("tears 1;" + many("trim;", 23) + "moves 1;", 6, 123);
    }

    @Says(promise = 8, words = "5 a NAME that isn't of that CLAUSE (at it).")
    static void namesOfMovesAreNotOfTears() {
        for (String name : new String[] {"strength", "who", "next", "right"}) {
            fine("moves " + name + ";");
            Due.fault("tears " + name + ";", 5, 6);
            Due.fault("moves " + name + ";tears 1+(" + name + ");", 5, 6 + name.length() + 10);
            Due.fault("tears if 1<2 then 3 else sheet -" + name + " end;", 5, 32);
            Due.fault("tears " + name, 5, 6);
        }
    }

    @Says(promise = 8, words = "NAMES: turn, cell, dough (of it), torn (1, if it is, else 0) in both")
    static void otherWordsAreNoNames() {
        fine("moves turn+cell+dough+torn+strength+who+next+right;");
        fine("tears turn+cell+dough+torn;");
        for (String word : new String[] {"left", "hand", "town", "moves", "tears", "trim", "patch", "at", "by", "then",
            "or", "and", "end", "else", "edge", "ball", "x", "Turn"}) {
            Due.fault("moves " + word + ";", 1, 6);
            Due.fault("tears " + word + ";", 1, 6);
        }
    }
}
