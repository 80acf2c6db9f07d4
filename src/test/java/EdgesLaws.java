/** Boundary cases of what laws answer: promises 10, 17 and 20. */
final class EdgesLaws {
    private static final int MOST = 1000000;

    private EdgesLaws() {
    }

    /** What moves answers by this sum, for hand 1 of strength 7 from cell 4, with 999, to the right. */
    private static void moves(String sum, int want) {
        RolledOut x = Due.made(3, 7);
        Due.lay(x, 1, 2, 3, 4, 999, 6, 7, 8, 9, 10, 11, 12);
        Due.rule(x, "moves " + sum + ";");
        Due.is(sum, x.moves(1, 4, true), want);
    }

    private static void tears(String sum, int want) {
        RolledOut x = Due.ruled("tears " + sum + ";");
        Due.is(sum, x.of(4, 3), want);
    }

    /** Cell 1 has more than 1000000; the image is so, with room for two texts. */
    private static RolledOut mountain() {
        RolledOut x = Due.ruled("moves 999;tears 0;");
        Due.read(x, "dough 999 at 0;right 0 by 0;".repeat(10));
        for (int i = 0; i < 101; i++) {
            x.played(1);
        }
        x.image();
        Due.is("of the mountain", x.of(1, 0), 20 + 101 * 9990);
        return x;
    }

    private static void onMountain(RolledOut x, String sum, int want) {
        Due.rule(x, "moves " + sum + ";");
        Due.is(sum, x.moves(0, 1, true), want);
        x.back();
    }

    // ---- how it is reckoned

    @Says(promise = 20, words = "SUM: PRODUCT {+ or - PRODUCT}. PRODUCT: ONE {* or / ONE}.")
    static void productsAreAheadOfSums() {
        moves("1+2*3", 7);
        moves("2*3+1", 7);
        moves("20-6/2", 17);
        moves("(1+2)*3", 9);
        moves("20-(6-2)", 16);
    }

    @Says(promise = 20, words = "From the left; / cuts towards 0, by 0 it is 0")
    static void itIsReckonedFromTheLeft() {
        moves("10-3-2", 5);
        moves("10-3+2", 9);
        moves("100/7/2", 7);
        moves("7/2*2", 6);
        moves("100/(7/2)", 33);
        moves("2*7/4", 3);
    }

    @Says(promise = 20, words = "/ cuts towards 0")
    static void divisionCutsTowards0() {
        moves("7/2", 3);
        moves("100+-7/2", 97);
        moves("100+7/-2", 97);
        moves("100+-7/-2", 103);
        moves("100+(0-1)/2", 100);
        moves("100+-6/2", 97);
    }

    @Says(promise = 20, words = "by 0 it is 0")
    static void by0ItIs0() {
        moves("5/0", 0);
        moves("5/0+7", 7);
        moves("7-5/0", 7);
        moves("7+-5/(3-3)", 7);
        moves("7+0/0", 7);
        moves("7+9/torn", 7);
        tears("8/0", 0);
    }

    @Says(promise = 20, words = "what is above 1000000 (below the same less) is that, at each step")
    static void aSumIsCutAt1000000() {
        moves("9999*100+99-9999*100", 99);
        moves("9999*100+100-9999*100", 100);
        moves("9999*100+101-9999*100", 100);
        moves("9999*100+9999-9999*100", 100);
        moves("9999*100+9999+9999-9999*100", 100);
    }

    @Says(promise = 20, words = "what is above 1000000 (below the same less) is that, at each step")
    static void aSumIsCutBelowToo() {
        moves("0-9999*100-99+9999*100+500", 401);
        moves("0-9999*100-100+9999*100+500", 400);
        moves("0-9999*100-101+9999*100+500", 400);
        moves("0-9999*100-9999+9999*100+500", 400);
        moves("0-9999*100+-9999+9999*100+500", 400);
    }

    @Says(promise = 20, words = "what is above 1000000 (below the same less) is that, at each step")
    static void aProductIsCut() {
        moves("1000*1000/2000", 500);
        moves("1001*1000/2000", 500);
        moves("9999*9999/2000", 500);
        moves("9999*9999*9999*9999*9999*9999/2000", 500);
        moves("500+-9999*9999/5000", 300);
        moves("500+9999*-9999/5000", 300);
        moves("-9999*-9999/5000", 200);
        moves("9999*9999*-1/5000+500", 300);
        moves("9999*9999-9999*9999", 0);
    }

    @Says(promise = 20, words = "(+ - * / of two, square; a NAME, sheet, a - ahead of ONE are none)")
    static void aSquareIsCut() {
        moves("square 999-9980*100", 1);
        moves("square 1000-9999*100", 100);
        moves("square 1001-9999*100", 100);
        moves("square 9999-9999*100", 100);
        moves("square-9999-9999*100", 100);
        moves("square square square square 9999-9999*100", 100);
        moves("500+-square 9999/5000", 300);
        tears("square 9999/9999-1", 99);
    }

    @Says(promise = 20, words = "(+ - * / of two, square; a NAME, sheet, a - ahead of ONE are none)")
    static void aNameAndSheetAndAMinusAreNotCut() {
        RolledOut x = mountain();
        int all = x.of(1, 0);
        onMountain(x, "dough", all);
        onMountain(x, "sheet 1", all);
        onMountain(x, "sheet cell", all);
        onMountain(x, "- -dough", all);
        onMountain(x, "if 1<2 then dough else 0 end", all);
        onMountain(x, "if dough>" + "1000*1000 then 5 else 6 end", 5);
        onMountain(x, "if -dough<-1000*1000 then 5 else 6 end", 5);
    }

    @Says(promise = 20, words = "(+ - * / of two, square; a NAME, sheet, a - ahead of ONE are none)")
    static void whatIsReckonedOfABigNameIsCut() {
        RolledOut x = mountain();
        onMountain(x, "dough+0", MOST);
        onMountain(x, "dough-0", MOST);
        onMountain(x, "dough*1", MOST);
        onMountain(x, "dough/1", MOST);
        onMountain(x, "-(0-dough)", MOST);
        onMountain(x, "-(-dough/1)", MOST);
        onMountain(x, "square dough", MOST);
        onMountain(x, "9999*100-dough+9999*100", 9999 * 100 + 9999 * 100 - x.of(1, 0));
        onMountain(x, "sheet 1/1", MOST);
    }

    @Says(promise = 20, words = "next (DOUGH of the CELL to which it goes; EDGE for over the edge)")
    static void nextIsNotCut() {
        RolledOut x = mountain();
        Due.rule(x, "moves if next>1000*1000 then 5 else 6 end;");
        Due.is("from 0", x.moves(0, 0, true), 0);
        x.dough(0, 50);
        Due.is("from 0 to the mountain", x.moves(0, 0, true), 5);
        Due.is("from 2 to the mountain", x.moves(0, 2, false), 5);
        Due.is("from 2 away", x.moves(0, 2, true), 6);
    }

    @Says(promise = 20, words = "sheet ONE (DOUGH of the CELL of that number; 0 for others)")
    static void sheetOfOtherNumbersIs0() {
        moves("sheet 0", 1);
        moves("sheet 11", 12);
        moves("sheet 12", 0);
        moves("sheet 9999", 0);
        moves("sheet -1", 0);
        moves("sheet (0-9999*9999)", 0);
        moves("sheet (9999*9999)", 0);
        moves("sheet 12+7", 7);
        moves("sheet 3+1", 5);
        moves("sheet (3+1)/10", 99);
        moves("sheet sheet 5", 7);
        moves("sheet -square 2", 0);
        tears("sheet 4", 20);
        tears("sheet 12", 0);
    }

    @Says(promise = 20, words = "- ONE, square ONE (by itself)")
    static void minusAndSquareTakeOneAlone() {
        moves("square 3+1", 10);
        moves("square 3*2", 18);
        moves("square (3+1)", 16);
        moves("100+-square 3", 91);
        moves("square -3", 9);
        moves("square square 3", 81);
        moves("20+-3-2", 15);
        moves("20+-3*2", 14);
        moves("- - -5+20", 15);
    }

    // ---- asking

    @Says(promise = 20, words = "SUM one of < <= > >= = # (unlike) SUM")
    static void likeAndUnlikeNumbers() {
        String[] signs = {"<", "<=", ">", ">=", "=", "#"};
        int[] of4And5 = {1, 1, 0, 0, 0, 1};
        int[] of5And5 = {0, 1, 0, 1, 1, 0};
        int[] of6And5 = {0, 0, 1, 1, 0, 1};
        for (int i = 0; i < signs.length; i++) {
            moves("if 4" + signs[i] + "5 then 1 else 0 end", of4And5[i]);
            moves("if 5" + signs[i] + "5 then 1 else 0 end", of5And5[i]);
            moves("if 6" + signs[i] + "5 then 1 else 0 end", of6And5[i]);
            moves("if -5" + signs[i] + "5 then 1 else 0 end", of4And5[i]);
            moves("if 4" + signs[i] + "5 and 1=1 then 1 else 0 end", of4And5[i]);
            moves("if 1<2 and 6" + signs[i] + "5 then 1 else 0 end", of6And5[i]);
            moves("if not 5" + signs[i] + "5 then 0 else 1 end", of5And5[i]);
            moves("if not not 4" + signs[i] + "5 and not 1=2 then 1 else 0 end", of4And5[i]);
        }
    }

    @Says(promise = 20, words = "EITHER: BOTH {or BOTH}. BOTH: ASK {and ASK}. ASK: not ASK")
    static void andIsAheadOfOrAndNotAheadOfBoth() {
        String then = " then 1 else 0 end";
        moves("if 1=1 or 1=1 and 1=2" + then, 1);
        moves("if 1=2 and 1=1 or 1=1" + then, 1);
        moves("if 1=2 or 1=1 and 1=2" + then, 0);
        moves("if not 1=1 or 1=1" + then, 1);
        moves("if not 1=2 and 1=2" + then, 0);
        moves("if not 1=1" + then, 0);
        moves("if not 1=2" + then, 1);
        moves("if not not 1=1" + then, 1);
        moves("if not not 1=2" + then, 0);
        moves("if not 1=1 and 1=2" + then, 0);
        moves("if 1=1 and not 1=2" + then, 1);
        moves("if 1=2 or not 1=1" + then, 0);
        moves("if 1=2 or 1=2 or 1=1" + then, 1);
        moves("if 1=1 and 1=1 and 1=2" + then, 0);
        moves("if 1=1 or 1=1" + then, 1);
        moves("if 1=1 and 1=1" + then, 1);
        moves("if 1=2 and 1=2" + then, 0);
        moves("if 1=2 or 1=2" + then, 0);
    }

    @Says(promise = 20, words = "of if just the SUM that is chosen is asked")
    static void theChosenSumAlone() {
        moves("if 1<2 then 3 else 4 end", 3);
        moves("if 2<1 then 3 else 4 end", 4);
        moves("if 1<2 then 3 else 4 end*2+1", 7);
        moves("10-if 1<2 then 3+1 else 4 end", 6);
        moves("if 1<2 then if 2<1 then 3 else 4 end else 5 end", 4);
        moves("if 2<1 then 5 else if 2<1 then 3 else 4 end end", 4);
        moves("if if 1<2 then 0 else 1 end=0 then 8 else 9 end", 8);
        moves("if 1<if 1<2 then 2 else 0 end then 8 else 9 end", 8);
        moves("if 2<1 then 5/0 else 6 end", 6);
    }

    // ---- names

    @Says(promise = 20, words = "NAMES: turn, cell, dough (of it), torn (1, if it is, else 0) in both")
    static void namesOfBoth() {
        RolledOut x = Due.ruled("moves turn*100+cell*10+torn;tears turn*10+cell+torn;");
        x.dough(3, 999);
        x.dough(0, 999);
        Due.is("moves", x.moves(0, 3, true), 30);
        Due.is("moves from 0", x.moves(0, 0, true), 0);
        Due.is("tears", x.of(3, 3), 3);
        x.by(-1);
        x.roll(4);
        x.dough(3, 1);
        x.stroke(0, 3, true);
        x.by(0);
        x.dough(3, 999);
        Due.is("moves then", x.moves(0, 3, true), 431);
        Due.is("tears then", x.of(3, 3), 44);
        Due.rule(x, "moves dough/9;tears dough/100;");
        Due.is("moves of dough", x.moves(0, 3, true), 111);
        Due.is("tears of dough", x.of(3, 3), 9);
    }

    @Says(promise = 20, words = "strength, who (the HAND)")
    static void strengthAndWho() {
        RolledOut x = Due.made(9, 1, 4, 6);
        Due.rule(x, "moves strength*10+who;");
        Due.lay(x, 99, 99);
        Due.is("hand 0", x.moves(0, 0, true), 90);
        Due.is("hand 1", x.moves(1, 0, true), 11);
        Due.is("hand 3", x.moves(3, 1, false), 63);
    }

    @Says(promise = 20, words = "next (DOUGH of the CELL to which it goes; EDGE for over the edge), right (1 to the right, 0 to the left)")
    static void nextAtBothEnds() {
        RolledOut x = Due.ruled("moves next*2+right;");
        Due.lay(x, 900, 7, 20, 20, 20, 20, 20, 20, 20, 20, 8, 900);
        Due.is("from 0 to the left, no edge", x.moves(0, 0, false), 0);
        Due.is("from 11 to the right, no edge", x.moves(0, 11, true), 1);
        Due.is("from 0 to the right", x.moves(0, 0, true), 15);
        Due.is("from 11 to the left", x.moves(0, 11, false), 16);
        x.dough(1, 999);
        x.dough(10, 999);
        x.dough(0, 400);
        x.dough(11, 300);
        Due.is("from 1 to cell 0", x.moves(0, 1, false), 800);
        Due.is("from 10 to cell 11", x.moves(0, 10, true), 601);
        x.dough(0, 900);
        x.by(-1);
        x.stroke(0, 0, false);
        x.by(0);
        Due.is("from 0 to the left", x.moves(0, 0, false), 450);
        x.dough(11, 950);
        Due.is("from 11 to the right", x.moves(0, 11, true), 901);
        x.trim();
        Due.is("trimmed", x.moves(0, 11, true), 1);
    }

    // ---- bounds of moves and tears

    @Says(promise = 20, words = "moves: 0 at least, the DOUGH of the CELL at most")
    static void movesIsFrom0ToTheDough() {
        moves("0-1", 0);
        moves("-9999*9999", 0);
        moves("0", 0);
        moves("998", 998);
        moves("999", 999);
        moves("1000", 999);
        moves("9999*9999", 999);
        RolledOut x = Due.ruled("moves 5;");
        x.dough(2, 5);
        x.dough(3, 4);
        x.dough(4, 0);
        Due.is("all of it", x.moves(0, 2, true), 5);
        Due.is("not more than there is", x.moves(0, 3, true), 4);
        Due.is("nothing of nothing", x.moves(0, 4, true), 0);
    }

    @Says(promise = 20, words = "without: half of it, cut.")
    static void withoutItIsHalf() {
        RolledOut x = Due.made(9);
        int[] dough = {0, 1, 2, 3, 999};
        int[] half = {0, 0, 1, 1, 499};
        for (int i = 0; i < dough.length; i++) {
            x.dough(5, dough[i]);
            Due.is("half of " + dough[i], x.moves(0, 5, true), half[i]);
        }
        Due.rule(x, "tears 5;hand 1;");
        Due.is("by a text without moves", x.moves(0, 5, false), 499);
    }

    @Says(promise = 17, words = "tears: 0 at least, 99 at most")
    static void tearsIsFrom0To99() {
        tears("0-1", 0);
        tears("0", 0);
        tears("1", 1);
        tears("98", 98);
        tears("99", 99);
        tears("100", 99);
        tears("9999*9999", 99);
        tears("-9999*9999", 0);
    }

    @Says(promise = 17, words = "99 at most; without: 3.")
    static void withoutItIs3() {
        RolledOut x = new RolledOut();
        Due.is("no text", x.of(0, 3), 3);
        Due.rule(x, "moves 50;");
        Due.is("a text without tears", x.of(11, 3), 3);
        x.dough(11, 0);
        Due.is("of a cell without dough", x.of(11, 3), 3);
    }

    @Says(promise = 20, words = "`int moves(int hand, int cell, boolean right)`: moves now. NONE for others.")
    static void movesOfOthersIsNone() {
        RolledOut x = new RolledOut();
        Due.is("no hand", x.moves(0, 0, true), -1);
        x.hand(1);
        x.hand(2);
        for (int other : new int[] {-1, 2, 3, 4, Integer.MIN_VALUE, Integer.MAX_VALUE}) {
            Due.is("hand " + other, x.moves(other, 0, true), -1);
        }
        for (int other : new int[] {-1, 12, Integer.MIN_VALUE, Integer.MAX_VALUE}) {
            Due.is("cell " + other, x.moves(0, other, true), -1);
            Due.is("cell " + other, x.moves(1, other, false), -1);
        }
        Due.is("the last hand, the last cell", x.moves(1, 11, true), 10);
        Due.is("the first", x.moves(0, 0, false), 10);
        Due.is("nothing is done", x.about(4), 0);
    }
}
