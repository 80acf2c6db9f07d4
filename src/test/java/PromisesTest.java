/** Each promise of the document by itself: ordinary calls, the edges it names, and wrong ones. */
public final class PromisesTest {
    private static final int LOW = Integer.MIN_VALUE;
    private static final int HIGH = Integer.MAX_VALUE;

    private PromisesTest() {
    }

    public static void main(String[] args) {
        newObject();
        hands();
        doughs();
        towns();
        tapes();
        texts();
        faults();
        depths();
        laws();
        numbers();
        bys();
        strokes();
        trimsAndPatches();
        rolls();
        lastTurns();
        plays();
        years();
        undos();
        toldSince();
        looks();
        books();
        foretold();
        shapes();
        carrying();
        shares();
        games();
        patches();
        plans();
        bests();
        whichStrokes();
        likely();
        townsApart();
        whoseLaw();
        ledgers();
        images();
        abouts();
        Due.end("PromisesTest");
    }

    // 1
    private static void newObject() {
        RolledOut x = new RolledOut();
        for (int cell = 0; cell < 12; cell++) {
            Due.is("of new", x.of(cell, 0), 20);
            Due.is("torn of new", x.of(cell, 1), 0);
            Due.is("towns of new", x.of(cell, 2), 0);
        }
        int[] is = {0, 281, 0, 0, 0, 240, -2};
        int[] about = {0, 0, 0, -1, 0, 0, 0, -2};
        for (int i = 0; i < is.length; i++) {
            Due.is("is of new " + i, x.is(i), is[i]);
        }
        for (int i = 0; i < about.length; i++) {
            Due.is("about of new " + i, x.about(i), about[i]);
        }
        x.hand(2);
        x.town(3);
        x.dough(4, 9);
        x.said(0, 0, 0);
        Due.read(x, "trim;");
        x.by(0);
        x.roll(3);
        Due.is("back to the lump", x.back(), 0);
        Due.is("hands of the lump", x.about(0), 0);
        Due.is("towns of the lump", x.about(1), 0);
        Due.is("texts of the lump", x.about(2), 0);
        Due.is("text of the lump", x.about(3), -1);
        Due.is("steps of the lump", x.about(4), 0);
        Due.is("said of the lump", x.about(5), 0);
        Due.is("dough of the lump", x.is(5), 240);
        Due.is("book of the lump", x.book(-1, 0), 0);
        Due.is("X of the lump", x.is(1), 281);
    }

    // 2, 19
    private static void hands() {
        RolledOut x = new RolledOut();
        int[] wrong = {0, 10, -1, LOW, HIGH};
        for (int w : wrong) {
            Due.is("hand of none " + w, x.hand(w), -1);
        }
        Due.is("ofHand of none", x.ofHand(0), -1);
        Due.is("first hand", x.hand(1), 0);
        Due.is("second hand", x.hand(9), 1);
        Due.is("third hand", x.hand(4), 2);
        Due.is("fourth hand", x.hand(4), 3);
        Due.is("fifth hand", x.hand(4), -1);
        Due.is("ofHand 0", x.ofHand(0), 1);
        Due.is("ofHand 1", x.ofHand(1), 9);
        Due.is("ofHand 3", x.ofHand(3), 4);
        Due.is("ofHand 4", x.ofHand(4), -1);
        Due.is("ofHand -1", x.ofHand(-1), -1);
        Due.is("ofHand low", x.ofHand(LOW), -1);
    }

    // 3
    private static void doughs() {
        RolledOut x = new RolledOut();
        Due.is("dough 0", x.dough(0, 0), true);
        Due.is("dough 999", x.dough(11, 999), true);
        Due.is("dough 1000", x.dough(1, 1000), false);
        Due.is("dough -1", x.dough(1, -1), false);
        Due.is("dough at 12", x.dough(12, 1), false);
        Due.is("dough at -1", x.dough(-1, 1), false);
        Due.is("dough at high", x.dough(HIGH, HIGH), false);
        Due.is("of 0", x.of(0, 0), 0);
        Due.is("of 1", x.of(1, 0), 20);
        Due.is("of 11", x.of(11, 0), 999);
        x.hand(1);
        x.dough(5, 4);
        x.stroke(0, 5, true);
        Due.is("torn", x.of(5, 1), 1);
        x.dough(5, 500);
        Due.is("dough told leaves it torn", x.of(5, 1), 1);
        Due.is("telling is no step", x.about(4), 1);
    }

    // 4, 18
    private static void towns() {
        RolledOut x = new RolledOut();
        Due.is("town at 12", x.town(12), -1);
        Due.is("town at -1", x.town(-1), -1);
        Due.is("ofTown of none", x.ofTown(0), -2);
        for (int i = 0; i < 6; i++) {
            Due.is("town " + i, x.town(11 - i / 2), i);
        }
        Due.is("seventh town", x.town(0), -1);
        Due.is("ofTown 0", x.ofTown(0), 11);
        Due.is("ofTown 5", x.ofTown(5), 9);
        Due.is("ofTown 6", x.ofTown(6), -2);
        Due.is("ofTown -1", x.ofTown(-1), -2);
        Due.is("towns in 11", x.of(11, 2), 3);
        Due.is("towns in 9", x.of(9, 2), 48);
        x.hand(1);
        Due.read(x, "moves dough;");
        x.by(0);
        x.stroke(0, 11, true);
        Due.is("fell", x.ofTown(0), -1);
        Due.is("fallen", x.fallen(), 3);
    }

    // 5, 6
    private static void tapes() {
        RolledOut x = new RolledOut();
        Due.is("end(1) of the empty", x.end(1), -1);
        for (int i = 1; i <= 15; i++) {
            Due.is("feed " + i, x.feed(0, 0, 0, 0, 0), 20 * i);
        }
        Due.is("feed beyond 300", x.feed(0, 0, 0, 0, 0), -1);
        Due.is("none came", x.about(6), 300);
        Due.is("end(301)", x.end(301), -1);
        Due.is("end(-1)", x.end(-1), -1);
        Due.is("end low", x.end(LOW), -1);
        Due.is("nothing was done", x.about(6), 300);
        Due.is("end(281)", x.end(281), 281);
        Due.is("feed to 301", x.feed(0, 0, 0, 0, 0), -1);
        Due.is("end(280)", x.end(280), 280);
        Due.is("feed to 300", x.feed(0, 0, 0, 0, 0), 300);
        Due.is("end(0)", x.end(0), 0);
        Due.is("feed t r i m", x.feed(0x7472696d, 0x3b747269, 0x6d3bffff, -1, -1), 20);
        Due.is("the highest come first", x.end(10), 10);
        Due.is("two trims", x.text(), 0);
        Due.is("their text", x.played(0), 0);
        x.feed(0x7472696d, 0x3bff0000, 0, 0, 0);
        x.end(6);
        Due.is("a byte of 255", x.text(), -1);
        Due.is("is none", x.fault(1), 5);
    }

    // 7, 8
    private static void texts() {
        RolledOut x = new RolledOut();
        for (int what = -1; what < 3; what++) {
            Due.is("fault ahead of any", x.fault(what), -1);
        }
        Due.is("the empty text", x.text(), 0);
        Due.is("without a fault", x.fault(0), 0);
        Due.is("and its place", x.fault(1), -1);
        Due.is("fault(2)", x.fault(2), -1);
        Due.is("fault(-1)", x.fault(-1), -1);
        Due.is("plays all", x.played(0), -1);
        Due.is("a fault", Due.read(x, "trim; hands 1;"), -1);
        Due.is("its kind", x.fault(0), 1);
        Due.is("its place", x.fault(1), 6);
        Due.is("the tape is empty", x.about(6), 0);
        Due.is("the second", Due.read(x, "\n tears\n1 ; "), 1);
        Due.is("the third", Due.read(x, "moves 1;"), 2);
        Due.is("the fourth", Due.read(x, "hand3;hand 4;"), 3);
        Due.is("no fault", x.fault(0), 0);
        Due.is("a fifth", Due.read(x, "what"), -1);
        Due.is("the tape stays", x.about(6), 4);
        Due.is("it wasn't read", x.fault(0), 0);
        Due.is("digits behind letters", x.played(3), -1);
        Due.is("two hands", x.about(0), 2);
        x.back();
        Due.is("the tape is not of the image", x.about(6), 4);
        Due.is("nor the fault", x.fault(0), 0);
        Due.is("read now", x.text(), -1);
        Due.is("fault of it", x.fault(0), 1);
        x.back();
        Due.is("fault stays", x.fault(0), 1);
    }

    private static String times(String one, int many) {
        return one.repeat(many);
    }

    private static void faults() {
        Due.fault("", 0, -1);
        Due.fault(" \n", 0, -1);
        Due.fault("\t", 1, 0);
        Due.fault("\r", 1, 0);
        Due.fault("trim ; @", 1, 7);
        Due.fault("Trim;", 1, 0);
        Due.fault("trims;", 1, 0);
        Due.fault("trimz;", 1, 0);
        Due.fault("trima;", 1, 0);
        Due.fault("trimA;", 1, 0);
        Due.fault("trimZ;", 1, 0);
        Due.fault("trim[", 1, 4);
        Due.fault("trim@", 1, 4);
        Due.fault("trim`", 1, 4);
        Due.fault("trim{", 1, 4);
        Due.fault("hand 1:", 1, 6);
        Due.fault("tri m;", 1, 0);
        Due.fault("trim; ;", 1, 6);
        Due.fault("at;", 1, 0);
        Due.fault("5;", 1, 0);
        Due.fault("10000;", 1, 0);
        Due.fault("trim  \n ", 1, 8);
        Due.fault("hand", 1, 4);
        Due.fault("hand ;", 1, 5);
        Due.fault("hand x;", 1, 5);
        Due.fault("hand -1;", 1, 5);
        Due.fault("hand 1 1;", 1, 7);
        Due.fault("hand 09;", 0, -1);
        Due.fault("hand 99999999999999999999;", 2, 5);
        Due.fault("dough 999 at 11;", 0, -1);
        Due.fault("dough 999 by 11;", 1, 10);
        Due.fault("dough 999 at;", 1, 12);
        Due.fault("dough 1000 by 11;", 2, 6);
        Due.fault("dough5at5;", 0, -1);
        Due.fault("patch 99 at 0;", 0, -1);
        Due.fault("left 0 by 3;", 0, -1);
        Due.fault("left 0 at 3;", 1, 7);
        Due.fault("left 0 by 4;", 2, 10);
        Due.fault("right 11 by 0;", 0, -1);
        Due.fault("turn 0;", 2, 5);
        Due.fault("turn 60;", 0, -1);
        Due.fault("turn;", 1, 4);
        Due.fault("town 11;", 0, -1);
        Due.fault("moves strength+who+next+right+turn+cell+dough+torn;", 0, -1);
        Due.fault("tears turn+cell+dough+torn;", 0, -1);
        Due.fault("tears who;", 5, 6);
        Due.fault("tears 1 who;", 1, 8);
        Due.fault("tears 1+sheet(who);", 5, 14);
        Due.fault("moves 1;tears 1;moves 1;", 4, 16);
        Due.fault("moves;", 1, 5);
        Due.fault("moves 9999;", 0, -1);
        Due.fault("moves 1 10000;", 1, 8);
        Due.fault("moves 1+;", 1, 8);
        Due.fault("moves 1 + * 2;", 1, 10);
        Due.fault("moves left;", 1, 6);
        Due.fault("moves (1;", 1, 8);
        Due.fault("moves 1);", 1, 7);
        Due.fault("moves if 1<2 then 1 else 2;", 1, 26);
        Due.fault("moves if 1<2 then 1 end;", 1, 20);
        Due.fault("moves if (1<2) then 1 else 2 end;", 1, 11);
        Due.fault("moves if 1< =2 then 1 else 2 end;", 1, 12);
        Due.fault("moves if 1=>2 then 1 else 2 end;", 1, 11);
        Due.fault("moves if 1<=2 or 1>=2 and 1#2 and 1=2 or not 1>2 then 1 else 2 end;", 0, -1);
        Due.fault("moves if not then 1 else 2 end;", 1, 13);
        Due.fault("moves if 1<=", 1, 12);
        Due.fault("moves if 1<", 1, 11);
        Due.fault("moves not 1;", 1, 6);
        Due.fault("moves 1", 1, 7);
        Due.fault(times("trim;", 24), 0, -1);
        Due.fault(times("trim;", 24) + "left", 6, 120);
        Due.fault(times("trim;", 24) + "foo", 1, 120);
        Due.fault("moves 1;" + times("trim;", 23) + "moves 1;", 4, 123);
        Due.fault("moves 1;" + times("trim;", 23) + "tears 1;", 6, 123);
    }

    private static void depths() {
        Due.fault("moves " + times("(", 8) + "1" + times(")", 8) + ";", 0, -1);
        Due.fault("moves " + times("(", 9), 3, 14);
        Due.fault("moves " + times("-", 8) + "1;", 0, -1);
        Due.fault("moves " + times("-", 9) + "1;", 3, 14);
        Due.fault("moves 1" + times("-1", 12) + ";", 0, -1);
        Due.fault("moves 1" + times("-", 9) + "1;", 0, -1);
        Due.fault("moves 1" + times("-", 10) + "1;", 3, 16);
        Due.fault("moves " + times("square ", 8) + "1;", 0, -1);
        Due.fault("moves " + times("square ", 8) + "*1;", 1, 62);
        Due.fault("moves " + times("square ", 9) + "1;", 3, 62);
        Due.fault("moves if " + times("not ", 7) + "1<2 then 1 else 2 end;", 0, -1);
        Due.fault("moves if " + times("not ", 8) + "1<2 then 1 else 2 end;", 3, 37);
        Due.fault("moves " + times("(1)+", 20) + "1;", 0, -1);
        Due.fault("moves " + times("(", 7) + "if 1<2 then 1 else (2) end", 3, 32);
        Due.fault("moves " + times("(", 7) + "if 1<2 then 1 else 2 end+(1)" + times(")", 7) + ";", 0, -1);
        Due.fault("moves " + times("(", 7) + "if not", 3, 16);
        Due.fault("moves " + times("if 1<2 then 1 else ", 8) + "1" + times(" end", 8) + ";", 0, -1);
        Due.fault("moves " + times("if 1<2 then 1 else ", 9) + "1", 3, 158);
    }

    /** moves of hand 0, strength 3, from cell 4 that has 900, to the right. */
    private static void law(String sum, int want) {
        RolledOut x = new RolledOut();
        x.hand(3);
        x.dough(4, 900);
        x.dough(5, 7);
        x.dough(3, 8);
        Due.is("text of " + sum, Due.read(x, "moves " + sum + ";"), 0);
        x.by(0);
        Due.is(sum, x.moves(0, 4, true), want);
    }

    private static void laws() {
        law("1+2*3", 7);
        law("(1+2)*3", 9);
        law("10-3-2", 5);
        law("100/7/2", 7);
        law("7*2/4*3", 9);
        law("(0-7)/2+10", 7);
        law("-7/2+10", 7);
        law("- -7", 7);
        law("5/0", 0);
        law("5/0+3", 3);
        law("0-5", 0);
        law("901", 900);
        law("9999*9999/9999", 100);
        law("9999*9999/1000", 900);
        law("square 9999/9999", 100);
        law("square-9999/9999", 100);
        law("-square 9999/9999+800", 700);
        law("(0-9999*9999)/5000+500", 300);
        law("9999*100+9999-9999*100+1", 101);
        law("(9999*100+9999-9999*100)/10", 10);
        law("square 3+1", 10);
        law("square(3+1)", 16);
        law("-square 3+100", 91);
        law("square -3", 9);
        law("strength*10+who", 30);
        law("next", 7);
        law("right", 1);
        law("turn+cell*10+torn", 40);
        law("dough/3", 300);
        law("sheet 3", 8);
        law("sheet 12+sheet(0-1)+sheet 9999", 0);
        law("sheet 0+sheet 11", 40);
        law("sheet sheet 5", 20);
        law("sheet 4*100/1000", 90);
        law("if 1<2 then 3 else 4 end", 3);
        law("if 2<2 then 3 else 4 end*2+1", 9);
        law("if 2<=2 then 3 else 4 end", 3);
        law("if 2>2 then 3 else 4 end", 4);
        law("if 2>=2 then 3 else 4 end", 3);
        law("if 2=2 then 3 else 4 end", 3);
        law("if 2#2 then 3 else 4 end", 4);
        law("if not 2#2 then 3 else 4 end", 3);
        law("if not not 2#2 then 3 else 4 end", 4);
        law("if 1=1 or 1=2 and 1=2 then 3 else 4 end", 3);
        law("if not 1=2 and 1=2 then 3 else 4 end", 4);
        law("if 1=2 or 1=2 or 1=1 then 3 else 4 end", 3);
        law("if 1=1 and 1=1 and 1=2 then 3 else 4 end", 4);
        law("if 1<2 then if 1>2 then 5 else 6 end else 7 end+1", 7);
        law("if if 1<2 then 0 else 1 end=0 then if 1<2 then 5 else 6 end+10 else 7 end", 15);
        law("007", 7);
        law("strength\n*\n2", 6);
        RolledOut x = new RolledOut();
        x.hand(5);
        x.hand(6);
        Due.read(x, "moves next*100+who*10+strength+right;tears torn*50+cell+dough/10-3;");
        x.by(0);
        x.dough(0, 999);
        x.dough(11, 999);
        Due.is("next over the left edge", x.moves(1, 0, false), 16);
        Due.is("next over the right edge", x.moves(0, 11, true), 6);
        x.dough(10, 3);
        Due.is("next to the left", x.moves(0, 11, false), 305);
        Due.is("tears", x.of(10, 3), 7);
        Due.is("tears is 0 at least", x.of(2, 3), 1);
        Due.is("tears is 99 at most", x.of(0, 3), 96);
        x.stroke(0, 11, true);
        Due.is("edge", x.is(3), 6);
        Due.is("next is the edge", x.moves(0, 11, true), 606);
        Due.is("tears of much", x.of(11, 3), 99);
        x.dough(1, 0);
        Due.is("tears below 0", x.of(1, 3), 0);
    }

    private static void numbers() {
        RolledOut x = new RolledOut();
        x.hand(1);
        Due.read(x, "moves 999;tears 0;");
        Due.read(x, "moves sheet 1*1;");
        Due.read(x, "dough 999 at 0;right 0 by 0;dough 999 at 0;right 0 by 0;dough 999 at 0;right 0 by 0;"
                + "dough 999 at 0;right 0 by 0;dough 999 at 0;right 0 by 0;dough 999 at 0;right 0 by 0;"
                + "dough 999 at 0;right 0 by 0;dough 999 at 0;right 0 by 0;");
        x.by(0);
        for (int i = 0; i < 130; i++) {
            Due.is("played", x.played(2), -1);
        }
        Due.is("a mountain", x.of(1, 0), 20 + 130 * 8 * 999);
        x.by(1);
        Due.is("a product is cut", x.moves(0, 1, true), 1000000);
        x.back();
        x.hand(1);
        Due.is("nothing is left", x.of(1, 0), 20);
        Due.read(x, "moves 999;tears 0;");
        Due.read(x, "moves sheet 1;");
        Due.read(x, "dough 999 at 0;right 0 by 0;dough 999 at 0;right 0 by 0;dough 999 at 0;right 0 by 0;"
                + "dough 999 at 0;right 0 by 0;dough 999 at 0;right 0 by 0;dough 999 at 0;right 0 by 0;"
                + "dough 999 at 0;right 0 by 0;dough 999 at 0;right 0 by 0;");
        x.by(0);
        for (int i = 0; i < 130; i++) {
            x.played(2);
        }
        x.by(1);
        Due.is("what sheet says isn't", x.moves(0, 1, true), 20 + 130 * 8 * 999);
        Due.read(x, "moves - -dough;");
        x.by(3);
        Due.is("nor a name, nor a - ahead", x.moves(0, 1, true), 20 + 130 * 8 * 999);
        Due.is("thick", x.thick(), 1);
        Due.is("glaze of much", x.glaze(0), 20 + 130 * 8 * 999);
    }

    // 9, 20
    private static void bys() {
        RolledOut x = new RolledOut();
        x.hand(1);
        Due.is("by(0) of none", x.by(0), false);
        Due.is("by(NONE)", x.by(-1), true);
        Due.read(x, "moves 3;");
        Due.read(x, "tears 9;");
        Due.is("reading rules nothing", x.moves(0, 0, true), 10);
        Due.is("by(0)", x.by(0), true);
        Due.is("about(3)", x.about(3), 0);
        Due.is("moves by it", x.moves(0, 0, true), 3);
        Due.is("tears without", x.of(0, 3), 3);
        Due.is("by(1)", x.by(1), true);
        Due.is("moves without", x.moves(0, 0, false), 10);
        Due.is("tears by it", x.of(0, 3), 9);
        Due.is("by(2)", x.by(2), false);
        Due.is("by(-2)", x.by(-2), false);
        Due.is("it stays", x.about(3), 1);
        Due.is("by(-1)", x.by(-1), true);
        Due.is("about(3) again", x.about(3), -1);
        Due.is("tears again", x.of(0, 3), 3);
        x.dough(0, 21);
        Due.is("half is cut", x.moves(0, 0, true), 10);
        x.dough(0, 1);
        Due.is("half of one", x.moves(0, 0, true), 0);
        x.dough(0, 0);
        Due.is("half of none", x.moves(0, 0, true), 0);
        Due.is("moves of no hand", x.moves(1, 0, true), -1);
        Due.is("moves of hand -1", x.moves(-1, 0, true), -1);
        Due.is("moves of cell 12", x.moves(0, 12, true), -1);
        Due.is("moves of cell -1", x.moves(0, -1, true), -1);
    }

    // 10
    private static void strokes() {
        RolledOut x = new RolledOut();
        Due.is("no hand", x.stroke(0, 0, true), -1);
        x.hand(5);
        Due.is("cell 12", x.stroke(0, 12, true), -1);
        Due.is("cell -1", x.stroke(0, -1, true), -1);
        Due.is("hand 1", x.stroke(1, 0, true), -1);
        Due.is("hand -1", x.stroke(-1, 0, true), -1);
        x.dough(3, 0);
        Due.is("no dough", x.stroke(0, 3, true), -1);
        Due.is("no step yet", x.about(4), 0);
        Due.is("nothing written", x.book(-1, 0), 0);
        x.town(0);
        Due.is("over the left edge", x.stroke(0, 0, false), 10);
        Due.is("edge", x.is(3), 10);
        Due.is("the rest", x.of(0, 0), 10);
        Due.is("half carries no town", x.ofTown(0), 0);
        Due.is("one step", x.about(4), 1);
        x.dough(3, 1);
        Due.is("half of one", x.stroke(0, 3, true), 0);
        Due.is("tears all the same", x.of(3, 1), 1);
        Due.is("is written", x.book(-1, 0), 2);
        Due.is("is a step", x.about(4), 2);
        Due.read(x, "moves 11;tears 9+torn;");
        x.by(0);
        x.town(5);
        x.town(5);
        x.town(6);
        Due.is("to the right", x.stroke(0, 5, true), 11);
        Due.is("towns along", x.of(6, 2), 14);
        Due.is("9 isn't less than 9", x.of(5, 1), 0);
        x.dough(5, 20);
        Due.is("to the left", x.stroke(0, 5, false), 11);
        Due.is("towns stay in 6", x.of(6, 2), 14);
        x.dough(5, 19);
        x.stroke(0, 5, false);
        Due.is("8 is less than 9", x.of(5, 1), 1);
        Due.is("the cell that gets is not torn", x.of(4, 1), 0);
        x.dough(11, 11);
        x.town(11);
        Due.is("all over the right edge", x.stroke(0, 11, true), 11);
        Due.is("edge is more", x.is(3), 21);
        Due.is("the town fell", x.ofTown(4), -1);
        Due.is("nothing is there", x.of(11, 0), 0);
        Due.is("torn", x.of(11, 1), 1);
        Due.is("torn cells", x.is(4), 1 << 3 | 1 << 5 | 1 << 11);
        Due.is("a torn one by tears as it is", x.of(5, 3), 10);
        RolledOut y = new RolledOut();
        y.hand(1);
        Due.read(y, "moves 5;tears if sheet 6>20 and dough=15 and cell=5 then 16 else 0 end;");
        y.by(0);
        y.stroke(0, 5, true);
        Due.is("tears is asked behind the move", y.is(4), 32);
    }

    // 11, 12
    private static void trimsAndPatches() {
        RolledOut x = new RolledOut();
        Due.is("nothing hangs over", x.trim(), -1);
        Due.is("no step", x.about(4), 0);
        x.hand(1);
        Due.read(x, "moves 18;");
        x.by(0);
        x.stroke(0, 0, false);
        x.stroke(0, 11, true);
        Due.is("trim", x.trim(), 36);
        Due.is("ball", x.is(2), 36);
        Due.is("edge", x.is(3), 0);
        Due.is("trim again", x.trim(), -1);
        Due.is("steps", x.about(4), 3);
        Due.is("patch 0", x.patch(0, 0), false);
        Due.is("patch 100", x.patch(0, 100), false);
        Due.is("patch -5", x.patch(0, -5), false);
        Due.is("patch 37", x.patch(0, 37), false);
        Due.is("patch one not torn", x.patch(1, 1), false);
        Due.is("patch 12", x.patch(12, 1), false);
        Due.is("patch -1", x.patch(-1, 1), false);
        Due.is("patch high", x.patch(HIGH, HIGH), false);
        Due.is("no step of these", x.about(4), 3);
        Due.is("patch", x.patch(0, 30), true);
        Due.is("its dough", x.of(0, 0), 32);
        Due.is("not torn", x.is(4), 2048);
        Due.is("patch again", x.patch(0, 1), false);
        Due.is("patch too much", x.patch(11, 7), false);
        Due.is("patch all of it", x.patch(11, 6), true);
        Due.is("no ball", x.is(2), 0);
        Due.is("steps then", x.about(4), 5);
        x.stroke(0, 0, false);
        x.stroke(0, 0, false);
        Due.is("added to the ball", x.trim(), 32);
        Due.is("the ball", x.is(2), 32);
        Due.read(x, "moves dough;");
        x.by(1);
        x.dough(0, 300);
        x.stroke(0, 0, false);
        x.trim();
        Due.is("100 of much", x.patch(0, 100), false);
        Due.is("99 of much", x.patch(0, 99), true);
        x.stroke(0, 0, false);
        Due.is("1 of much", x.patch(0, 1), true);
    }

    // 13
    private static void rolls() {
        RolledOut x = new RolledOut();
        int[] wrong = {0, 61, -1, LOW, HIGH};
        for (int w : wrong) {
            Due.is("roll " + w, x.roll(w), -1);
        }
        Due.is("no hands", x.roll(60), 0);
        Due.is("no draws", x.is(1), 281);
        Due.is("turn", x.is(0), 60);
        Due.is("steps", x.about(4), 30);
        Due.is("no strokes", x.book(-1, 0), 0);
        x.back();
        x.hand(1);
        x.hand(2);
        x.dough(5, 0);
        Due.is("the cell has no dough", x.roll(1), 0);
        Due.is("both draws are made", x.is(1), 6054);
        Due.is("nothing is written", x.book(-1, 0), 0);
        // 6054 mod 12 is 6, then 20055 mod 2 is 1; the hand is 1 mod 2
        x.dough(6, 3);
        Due.is("one tears", x.roll(1), 1);
        Due.is("by hand 1", x.book(0, 1), 1);
        Due.is("in turn 1", x.book(0, 0), 1);
        Due.is("cell and way", x.book(0, 2), 13);
        Due.is("how much", x.book(0, 3), 1);
        Due.is("X", x.is(1), (20055 * 541 + 419) % 30713);
        RolledOut y = new RolledOut();
        y.hand(1);
        Due.read(y, "moves dough;");
        y.by(0);
        Due.is("a law that tears", y.roll(60), Integer.bitCount(y.is(4)));
        Due.is("some are torn", y.is(4) != 0, true);
        int torn = y.is(4);
        int more = y.roll(60);
        Due.is("torn ones don't tear again", more, Integer.bitCount(y.is(4) & ~torn));
        x.roll(2);
        int after = x.is(1);
        int folds = x.folds();
        x.undo();
        x.undo();
        x.roll(1);
        x.roll(1);
        Due.is("one by one X is the same", x.is(1), after);
        Due.is("and the sheet", x.folds(), folds);
    }

    // 13, 14, 15, 23 at the last turn
    private static void lastTurns() {
        RolledOut x = new RolledOut();
        Due.read(x, "hand 1;turn 7;trim;turn 9;trim;");
        for (int i = 0; i < 166; i++) {
            x.roll(60);
        }
        Due.is("turn 9960", x.is(0), 9960);
        Due.is("beyond", x.roll(40), -1);
        Due.is("nothing is done", x.is(0), 9960);
        Due.is("to 9990", x.roll(30), 0);
        x.image();
        Due.is("just to the end", x.roll(9), 0);
        Due.is("turn 9999", x.is(0), 9999);
        Due.is("none can pass", x.roll(1), -1);
        Due.is("foretold then", x.foretold(60, 0, 3), 20);
        x.hand(3);
        Due.is("no turn in foretold", x.foretold(60, 2, 0), 0);
        Due.is("years at the end", x.years(0, 1), 9999);
        Due.is("no draw of a turn", x.is(1), 29588);
        x.back();
        Due.is("as many as can pass", x.played(0), 2);
        Due.is("seven passed", x.is(0), 9997);
        x.back();
        Due.read(x, "turn 7;turn 9;hand 1;");
        Due.is("those that can pass do", x.played(1), 1);
        Due.is("two of nine", x.is(0), 9999);
        Due.is("nothing behind it", x.about(0), 0);
        Due.is("at the end", x.played(1), 0);
        x.back();
        x.hand(1);
        x.roll(5);
        for (int i = 0; i < 12; i++) {
            Due.is("foretold stops at the end", x.foretold(60, 0, i), x.foretold(4, 0, i));
        }
        x.roll(4);
        for (int i = 0; i < 12; i++) {
            Due.is("nothing comes at the end", x.foretold(1, 0, i), x.of(i, 0));
        }
    }

    // 14
    private static void plays() {
        RolledOut x = new RolledOut();
        Due.is("no text", x.played(0), -2);
        Due.is("NONE", x.played(-1), -2);
        Due.read(x, "tears 19;moves 2;hand 4;dough 30 at 2;town 2;left 2 by 0;right 11 by 0;trim;patch 2 at 11;turn 2;");
        Due.is("11 isn't torn", x.played(0), 8);
        Due.is("its laws don't rule", x.of(2, 3), 3);
        Due.is("usual half", x.book(0, 3), 15);
        Due.is("what was done stays", x.is(2), 10);
        Due.is("the rest isn't done", x.is(0), 0);
        x.back();
        Due.read(x, "tears 19;moves 2;hand 4;dough 30 at 2;town 2;left 2 by 0;right 11 by 0;trim;patch 2 at 11;turn 2;");
        x.by(0);
        Due.is("by its own law", x.played(0), -1);
        Due.is("left", x.book(0, 2), 4);
        Due.is("right", x.book(1, 2), 23);
        Due.is("how much", x.book(1, 3), 2);
        Due.is("patched", x.of(11, 1), 0);
        Due.is("hand", x.ofHand(0), 4);
        Due.is("turn", x.is(0), 2);
        Due.is("steps", x.about(4), 6);
        Due.is("text 1", x.played(1), -2);
        String[] cannot = {"left 0 by 1;", "trim;", "patch 1 at 0;", "dough 0 at 3;left 3 by 0;",
            "hand 1;hand 1;hand 1;hand 1;hand 1;", "town 1;town 1;town 1;town 1;town 1;town 1;town 1;"};
        int[] where = {0, 0, 0, 1, 4, 6};
        for (int i = 0; i < cannot.length; i++) {
            RolledOut y = new RolledOut();
            Due.read(y, cannot[i]);
            Due.is(cannot[i], y.played(0), where[i]);
        }
    }

    // 15
    private static void years() {
        RolledOut x = new RolledOut();
        Due.is("seed -1", x.years(-1, 1), -1);
        Due.is("seed 10000", x.years(10000, 1), -1);
        Due.is("n 0", x.years(0, 0), -1);
        Due.is("n 41", x.years(0, 41), -1);
        Due.is("nothing", x.about(4), 0);
        Due.is("a turn without hands", x.years(0, 1), 1);
        Due.is("X", x.is(1), 29588);
        Due.is("one step", x.about(4), 1);
        Due.is("undo", x.undo(), 0);
        Due.is("X as ahead", x.is(1), 281);
        Due.is("turn as ahead", x.is(0), 0);
        // seed 9999: x is 20279, mod 6 is 5: a turn
        Due.is("the last seed", x.years(9999, 1), 1);
        Due.is("its X", x.is(1), (20279 * 541 + 419) % 30713);
        x.back();
        // seed 1: x is 283, mod 6 is 1: without hands nothing, with one: cell 47 mod 12 is 11, 283 mod 4 is 3
        Due.is("a stroke without hands", x.years(1, 1), 0);
        Due.is("isn't", x.book(-1, 0), 0);
        Due.is("but is a step", x.about(4), 1);
        x.hand(5);
        x.hand(6);
        Due.is("a stroke", x.years(1, 1), 0);
        Due.is("hand", x.book(0, 1), 1);
        Due.is("cell and way", x.book(0, 2), 23);
        Due.is("edge", x.is(3), 10);
        // seed 5: x is 291, mod 6 is 3: cell 48 mod 12 is 0; patched with 1 and 291 mod 9, 4 in all
        x.dough(0, 2);
        x.stroke(0, 0, true);
        Due.is("torn", x.of(0, 1), 1);
        x.years(5, 1);
        Due.is("no ball", x.of(0, 1), 1);
        // seed 6: x is 293, mod 6 is 5; seed 0 with 2 mod 6: x even: none, as 281 is odd and 2 * seed even
        x.trim();
        x.years(5, 1);
        Due.is("patched", x.of(0, 1), 0);
        Due.is("its dough", x.of(0, 0), 5);
        Due.is("ball", x.is(2), 6);
        x.back();
        x.hand(3);
        x.years(123, 40);
        int sum = x.is(5) + x.is(3) + x.is(2);
        Due.is("nothing is lost", sum, 240);
        Due.is("one step for all", x.about(4), 1);
        x.undo();
        Due.is("all back", x.is(5), 240);
        Due.is("no book", x.book(-1, 0), 0);
    }

    // 16
    private static void undos() {
        RolledOut x = new RolledOut();
        Due.is("nothing to undo", x.undo(), -1);
        x.hand(1);
        x.town(2);
        Due.read(x, "moves dough-1;");
        x.by(0);
        x.stroke(0, 2, false);
        x.stroke(0, 1, false);
        x.stroke(0, 0, false);
        Due.is("carried", x.ofTown(0), -1);
        x.trim();
        x.patch(0, 5);
        x.roll(1);
        Due.is("steps", x.about(4), 6);
        Due.is("undo a turn", x.undo(), 5);
        Due.is("X", x.is(1), 281);
        Due.is("turn", x.is(0), 0);
        Due.is("book", x.book(-1, 0), 3);
        Due.is("undo a patch", x.undo(), 4);
        Due.is("torn", x.is(4), 7);
        Due.is("ball", x.is(2), 57);
        Due.is("undo a trim", x.undo(), 3);
        Due.is("edge", x.is(3), 57);
        Due.is("no ball", x.is(2), 0);
        Due.is("undo a stroke", x.undo(), 2);
        Due.is("no edge", x.is(3), 0);
        Due.is("town back", x.ofTown(0), 0);
        Due.is("undo", x.undo(), 1);
        Due.is("undo", x.undo(), 0);
        Due.is("town home", x.ofTown(0), 2);
        Due.is("whole again", x.is(4), 0);
        Due.is("empty book", x.book(-1, 0), 0);
        Due.is("undo of none", x.undo(), -1);
        Due.is("the law stays", x.about(3), 0);
        Due.is("hands stay", x.about(0), 1);
        for (int i = 0; i < 31; i++) {
            x.stroke(0, 6, i % 2 == 0);
            x.dough(6, 20 + i);
        }
        Due.is("thirty at most", x.about(4), 30);
        int eldest = x.book(0, 3);
        Due.is("book of thirty", x.book(-1, 0), 30);
        x.undo();
        Due.is("the book as ahead of it", x.book(-1, 0), 30);
        Due.is("one elder is back", x.book(0, 2), 13);
        Due.is("of it", eldest, 19);
        for (int i = 28; i >= 0; i--) {
            Due.is("undo to " + i, x.undo(), i);
        }
        Due.is("one stroke is for good", x.book(-1, 0), 1);
        Due.is("no more", x.undo(), -1);
    }

    private static void toldSince() {
        RolledOut x = new RolledOut();
        x.hand(1);
        x.stroke(0, 3, true);
        x.dough(4, 7);
        x.town(4);
        x.stroke(0, 4, true);
        x.dough(3, 100);
        Due.is("undo the second", x.undo(), 1);
        Due.is("4 as told", x.of(4, 0), 7);
        Due.is("5 as ahead", x.of(5, 0), 20);
        Due.is("3 as told since", x.of(3, 0), 100);
        Due.is("undo the first", x.undo(), 0);
        Due.is("3 as told", x.of(3, 0), 100);
        Due.is("4 as told since", x.of(4, 0), 7);
        Due.is("the town stays", x.ofTown(0), 4);
        Due.is("towns", x.about(1), 1);
        Due.read(x, "dough 50 at 9;town 9;hand 7;");
        x.stroke(0, 9, true);
        x.played(0);
        Due.is("undo", x.undo(), 0);
        Due.is("told by a text", x.of(9, 0), 50);
        Due.is("town by a text", x.ofTown(1), 9);
        Due.is("hand by a text", x.about(0), 2);
    }

    // 17, 21
    private static void looks() {
        RolledOut x = new RolledOut();
        Due.is("of 12", x.of(12, 0), -1);
        Due.is("of -1", x.of(-1, 0), -1);
        Due.is("of low", x.of(LOW, 0), -1);
        Due.is("of what 4", x.of(0, 4), -1);
        Due.is("of what -1", x.of(0, -1), -1);
        Due.is("is 6", x.is(6), -2);
        Due.is("is -1", x.is(-1), -2);
        Due.is("about 7", x.about(7), -2);
        Due.is("about -1", x.about(-1), -2);
    }

    // 22
    private static void books() {
        RolledOut x = new RolledOut();
        x.hand(1);
        x.hand(1);
        Due.is("none yet", x.book(0, 0), -2);
        x.roll(1);
        x.stroke(1, 11, true);
        Due.is("how many", x.book(-1, 0), 2);
        Due.is("turn", x.book(1, 0), 1);
        Due.is("hand", x.book(1, 1), 1);
        Due.is("way", x.book(1, 2), 23);
        Due.is("how much", x.book(1, 3), 10);
        Due.is("the eldest is first", x.book(0, 2), 10);
        Due.is("what 4", x.book(1, 4), -2);
        Due.is("what -1", x.book(1, -1), -2);
        Due.is("i 2", x.book(2, 0), -2);
        Due.is("i -2", x.book(-2, 0), -2);
        Due.is("i high", x.book(HIGH, 0), -2);
        for (int i = 0; i < 40; i++) {
            x.dough(3, 100 + i);
            x.stroke(0, 3, true);
        }
        Due.is("the latest thirty", x.book(-1, 0), 30);
        Due.is("the eldest of these", x.book(0, 3), 55);
        Due.is("the latest", x.book(29, 3), 69);
        Due.is("no more", x.book(30, 3), -2);
    }

    // 23
    private static void foretold() {
        RolledOut x = new RolledOut();
        x.hand(2);
        x.town(5);
        Due.read(x, "moves 18;");
        x.by(0);
        Due.is("n 0", x.foretold(0, 0, 0), -2);
        Due.is("n 61", x.foretold(61, 0, 0), -2);
        Due.is("what 3", x.foretold(1, 3, 0), -2);
        Due.is("what -1", x.foretold(1, -1, 0), -2);
        Due.is("cell 12", x.foretold(1, 0, 12), -2);
        Due.is("cell -1", x.foretold(1, 0, -1), -2);
        Due.is("town 1", x.foretold(1, 1, 1), -2);
        Due.is("town -1", x.foretold(1, 1, -1), -2);
        Due.is("dough", x.foretold(1, 0, 5), 2);
        Due.is("town", x.foretold(1, 1, 0), 4);
        Due.is("torn", x.foretold(1, 2, 0), 32);
        Due.is("nothing is done", x.is(0), 0);
        Due.is("X stays", x.is(1), 281);
        Due.is("no step", x.about(4), 0);
        Due.is("no book", x.book(-1, 0), 0);
        int[] then = new int[12];
        for (int i = 0; i < 12; i++) {
            then[i] = x.foretold(60, 0, i);
        }
        int town = x.foretold(60, 1, 0);
        int torn = x.foretold(60, 2, 0);
        x.roll(60);
        for (int i = 0; i < 12; i++) {
            Due.is("as foretold " + i, x.of(i, 0), then[i]);
        }
        Due.is("town as foretold", x.ofTown(0), town);
        Due.is("torn as foretold", x.is(4), torn);
    }

    // 24 to 32, 43, 44
    private static void shapes() {
        RolledOut x = new RolledOut();
        Due.lay(x, 3, 1, 4, 1, 5, 9, 2, 6, 5, 3, 5, 8);
        Due.is("lake", x.lake(), 2 + 3 + 6 + 2 + 3 + 5 + 3);
        Due.is("glaze", x.glaze(0), 16);
        Due.is("glaze first", x.glaze(1), 4);
        Due.is("glaze many", x.glaze(2), 8);
        Due.is("glaze 3", x.glaze(3), -1);
        Due.is("glaze -1", x.glaze(-1), -1);
        Due.is("rise", x.rise(-1), 5);
        int[] rise = {0, 2, 4, 7, 11};
        for (int i = 0; i < 5; i++) {
            Due.is("rise " + i, x.rise(i), rise[i]);
        }
        Due.is("rise 5", x.rise(5), -2);
        Due.is("rise -2", x.rise(-2), -2);
        Due.is("rise high", x.rise(HIGH), -2);
        Due.is("folds", x.folds(), 18);
        Due.is("peaks", x.peaks(), 1 | 1 << 2 | 1 << 5 | 1 << 7 | 1 << 11);
        Due.is("richest 1", x.richest(1), 5);
        Due.is("richest 2", x.richest(2), 4);
        Due.is("richest 3", x.richest(3), 5);
        Due.is("richest 12", x.richest(12), 0);
        Due.is("richest 0", x.richest(0), -1);
        Due.is("richest 13", x.richest(13), -1);
        Due.is("islands 0", x.islands(0), 1);
        Due.is("islands 2", x.islands(2), 4);
        Due.is("islands 4", x.islands(4), 3);
        Due.is("islands 9", x.islands(9), 0);
        Due.is("islands 9999", x.islands(9999), 0);
        Due.is("islands 10000", x.islands(10000), -1);
        Due.is("islands -1", x.islands(-1), -1);
        Due.is("sees right", x.sees(7, true), 11);
        Due.is("sees left", x.sees(7, false), 5);
        Due.is("sees none", x.sees(5, false), -1);
        Due.is("sees at the end", x.sees(11, true), -1);
        Due.is("sees from 12", x.sees(12, false), -1);
        Due.is("sees from -1", x.sees(-1, true), -1);
        Due.is("not one alike", x.sees(8, true), 11);
        Due.is("middle 1", x.middle(1), 1);
        Due.is("middle 2", x.middle(2), 1);
        Due.is("middle 3", x.middle(3), 2);
        Due.is("middle 6", x.middle(6), 4);
        Due.is("middle 9", x.middle(9), 5);
        Due.is("middle 12", x.middle(12), 9);
        Due.is("middle 0", x.middle(0), -1);
        Due.is("middle 13", x.middle(13), -1);
        Due.is("thin", x.thin(), 1);
        Due.is("thick", x.thick(), 5);
        Due.lay(x, 0, 0, 0, 0, 0, 0, 0, 0, 0, 0, 0, 0);
        Due.is("glaze of nothing", x.glaze(0), 0);
        Due.is("its first", x.glaze(1), 0);
        Due.is("its many", x.glaze(2), 1);
        Due.is("islands of nothing", x.islands(0), 0);
        Due.is("thin of all alike", x.thin(), 0);
        Due.is("thick of all alike", x.thick(), 0);
        Due.lay(x, 0, 6, 6, 0, 4, 4, 4, 0, 12, 0, 3, 0);
        Due.is("of like glazes", x.glaze(0), 12);
        Due.is("the lowest first", x.glaze(1), 1);
        Due.is("its many", x.glaze(2), 2);
        Due.is("a flat top is none", x.peaks(), 1 << 8 | 1 << 10);
        Due.lay(x, 6, 3, 0, 0, 0, 0, 0, 0, 0, 0, 0, 9);
        Due.lay(x, 6, 3, 0, 0, 0, 0, 0, 0, 0, 0, 0, 6);
        Due.is("of one first cell the fewest", x.glaze(2), 1);
        Due.is("peaks at both ends", x.peaks(), 1 | 1 << 11);
        Due.is("lake to the lower end", x.lake(), 3 + 6 * 9);
        Due.lay(x, 5, 4, 3, 2, 1, 0, 0, 0, 0, 0, 0, 0);
        Due.is("rise of a fall", x.rise(-1), 1);
        Due.is("its cell", x.rise(0), 0);
        Due.is("lake of a fall", x.lake(), 0);
        Due.lay(x, 5, 1, 6, 2, 7, 3, 0, 0, 0, 0, 0, 0);
        Due.is("the lowest first cell", x.rise(0), 0);
        Due.is("then the next", x.rise(1), 2);
        Due.is("and the next", x.rise(2), 4);
    }

    // 33, 34
    private static void carrying() {
        RolledOut x = new RolledOut();
        x.dough(0, 19);
        Due.is("not as much", x.carried(), -1);
        x.dough(11, 21);
        Due.is("from end to end", x.carried(), 11);
        x.dough(5, 25);
        x.dough(6, 15);
        Due.is("against it", x.carried(), 5 + 4 + 5);
        Due.is("level", x.level(), 5 + 4 + 5);
        x.dough(0, 20);
        Due.is("one left over belongs to 0", x.level(), 5 + 4 + 5);
        x.image();
        Due.is("of the image", x.carried(), 0);
        Due.lay(x, 0, 0, 0, 0, 0, 0, 0, 0, 0, 0, 0, 13);
        Due.is("two for cell 0", x.level(), 11 * 2 + 10 + 9 + 8 + 7 + 6 + 5 + 4 + 3 + 2 + 1);
        Due.lay(x, 0, 0, 0, 0, 0, 0, 0, 0, 0, 0, 0, 0);
        Due.is("nothing is level", x.level(), 0);
    }

    // 35
    private static void shares() {
        RolledOut x = new RolledOut();
        Due.lay(x, 9, 1, 1, 1, 1, 1, 1, 1, 1, 1, 1, 1);
        Due.is("one part", x.shared(1, -1), 20);
        Due.is("begins at", x.shared(1, 0), 0);
        Due.is("has one part", x.shared(1, 1), -2);
        Due.is("two parts", x.shared(2, -1), 10);
        Due.is("the second", x.shared(2, 1), 2);
        Due.is("six parts", x.shared(6, -1), 9);
        int[] six = {0, 1, 2, 3, 4, 5};
        for (int i = 0; i < 6; i++) {
            Due.is("six parts " + i, x.shared(6, i), six[i]);
        }
        Due.is("of six", x.shared(6, 6), -2);
        Due.is("i -2", x.shared(6, -2), -2);
        Due.is("no parts", x.shared(0, -1), -2);
        Due.is("seven parts", x.shared(7, -1), -2);
        Due.is("low", x.shared(LOW, -1), -2);
        Due.lay(x, 0, 0, 0, 0, 0, 0, 0, 0, 0, 0, 0, 9);
        Due.is("nothing in three", x.shared(4, -1), 9);
        Due.is("fewest first", x.shared(4, 3), 3);
        Due.lay(x, 1, 1, 1, 9, 1, 1, 1, 1, 1, 9, 1, 1);
        Due.is("three parts", x.shared(3, -1), 12);
        Due.is("first", x.shared(3, 1), 4);
        Due.is("second", x.shared(3, 2), 8);
    }

    // 36, 37
    private static void games() {
        RolledOut x = new RolledOut();
        Due.lay(x, 3, 9, 1, 2, 8, 8);
        Due.is("one cell", x.ends(1, 1), 9);
        Due.is("taken", x.endsFirst(1, 1), 1);
        Due.is("two cells", x.ends(0, 1), 6);
        Due.is("the right one", x.endsFirst(0, 1), 1);
        Due.is("three", x.ends(0, 2), -5);
        Due.is("its first", x.endsFirst(0, 2), 0);
        Due.is("four", x.ends(0, 3), 7);
        Due.is("four's first", x.endsFirst(0, 3), 3);
        Due.is("alike: the left", x.endsFirst(4, 5), 4);
        Due.is("all", x.ends(0, 11) >= 0, true);
        Due.is("a above b", x.ends(2, 1), -9999);
        Due.is("first of it", x.endsFirst(2, 1), -1);
        Due.is("to 12", x.ends(0, 12), -9999);
        Due.is("first to 12", x.endsFirst(0, 12), -1);
        Due.is("from -1", x.ends(-1, 3), -9999);
        Due.is("first from -1", x.endsFirst(-1, 3), -1);
        Due.is("wild", x.ends(LOW, HIGH), -9999);
    }

    private static RolledOut torn(int... cells) {
        RolledOut x = new RolledOut();
        x.hand(1);
        for (int cell : cells) {
            x.dough(cell, 1);
            x.stroke(0, cell, true);
        }
        return x;
    }

    // 38
    private static void patches() {
        RolledOut x = torn(0, 2, 5, 6, 11);
        Due.is("torn", x.is(4), 1 | 4 | 32 | 64 | 2048);
        Due.is("fewest of ones", x.patches(1, 1, false), 5);
        Due.is("cost of ones", x.patches(1, 1, true), 15);
        Due.is("fewest of 3", x.patches(1, 3, false), 3);
        Due.is("the other way about", x.patches(3, 1, false), 3);
        Due.is("cost of 3 and 1", x.patches(1, 3, true), 5 + 5 + 3);
        Due.is("fewest of 6", x.patches(6, 6, false), 2);
        Due.is("cost of 6", x.patches(6, 6, true), 16);
        Due.is("cost of 6 and 1", x.patches(6, 1, true), 8 + 3 + 3);
        Due.is("of none", torn().patches(2, 3, true), 0);
        Due.is("over the end", torn(11).patches(6, 6, false), 1);
        int[] wrong = {0, 7, -1, LOW, HIGH};
        for (int w : wrong) {
            Due.is("long1 " + w, x.patches(w, 1, false), -1);
            Due.is("long2 " + w, x.patches(1, w, true), -1);
        }
    }

    // 39
    private static void plans() {
        RolledOut x = new RolledOut();
        Due.is("no hand", x.plan(0, 9999, -1), -2);
        x.hand(2);
        Due.is("it is so", x.plan(0, 20, -1), 0);
        Due.is("no stroke", x.plan(0, 20, 0), -2);
        Due.is("most 9999", x.plan(0, 9999, -1), 0);
        Due.is("most 10000", x.plan(0, 10000, -1), -2);
        Due.is("most -1", x.plan(0, -1, -1), -2);
        Due.is("hand 1", x.plan(1, 20, -1), -2);
        Due.is("hand -1", x.plan(-1, 20, -1), -2);
        Due.is("i -2", x.plan(0, 20, -2), -2);
        Due.is("i 3", x.plan(0, 20, 3), -2);
        Due.is("none", x.plan(0, 19, -1), -2);
        Due.is("none such", x.plan(0, 19, 0), -2);
        Due.lay(x, 0, 40, 0, 10, 40, 0, 0, 0, 40, 0, 0, 0);
        Due.is("three strokes", x.plan(0, 20, -1), 3);
        Due.is("first", x.plan(0, 20, 0), 2);
        Due.is("second", x.plan(0, 20, 1), 9);
        Due.is("third", x.plan(0, 20, 2), 16);
        Due.is("nothing is done", x.of(1, 0), 40);
        Due.lay(x, 40, 40, 0, 40, 0, 40, 0, 0, 0, 0, 0, 0);
        Due.is("four are too many", x.plan(0, 20, -1), -2);
        Due.lay(x, 4, 0, 0, 0, 0, 0, 0, 0, 0, 0, 0, 0);
        Due.is("it would tear", x.plan(0, 3, -1), -2);
        x.stroke(0, 0, true);
        x.dough(0, 4);
        x.dough(1, 0);
        Due.is("it is torn already", x.plan(0, 3, -1), 1);
        Due.is("over the edge", x.plan(0, 3, 0), 0);
        Due.lay(x, 0, 0, 0, 0, 0, 0, 0, 0, 0, 0, 0, 0);
        Due.is("all of nothing", x.plan(0, 0, -1), 0);
        RolledOut y = new RolledOut();
        y.hand(1);
        Due.read(y, "moves if sheet 0=19 then 15 else 1 end;");
        y.by(0);
        Due.lay(y, 20, 20, 20, 20, 20, 30, 5, 5, 5, 5, 5, 5);
        Due.is("a stroke elsewhere first", y.plan(0, 20, -1), 2);
        Due.is("by the law", y.plan(0, 20, 0), 0);
        Due.is("to the right", y.plan(0, 20, 1), 11);
    }

    // 40
    private static void bests() {
        RolledOut x = new RolledOut();
        Due.is("no hand", x.best(0), -1);
        x.hand(2);
        Due.is("the lowest of like ones", x.best(0), 0);
        Due.is("hand 1", x.best(1), -1);
        Due.is("hand -1", x.best(-1), -1);
        x.dough(7, 60);
        Due.is("the thickest", x.best(0), 14);
        x.dough(6, 40);
        Due.is("to the thinner side", x.best(0), 15);
        Due.lay(x, 0, 0, 0, 0, 0, 0, 0, 0, 0, 0, 0, 0);
        Due.is("none can be", x.best(0), -1);
        x.dough(11, 1);
        Due.is("just one can be", x.best(0), 22);
    }

    // 41
    private static void whichStrokes() {
        RolledOut x = new RolledOut();
        Due.is("no hand", x.which(0, false), -2);
        Due.is("no hand, first", x.which(0, true), -2);
        x.hand(2);
        Due.is("none leads to the same", x.which(0, false), 0);
        Due.is("no first", x.which(0, true), -1);
        x.stroke(0, 4, true);
        Due.is("one way", x.which(0, false), 1);
        Due.is("it", x.which(0, true), 9);
        x.stroke(0, 0, false);
        Due.is("two in any order", x.which(0, false), 2);
        Due.is("the lowest first", x.which(0, true), 0);
        x.trim();
        Due.is("the edge isn't as now", x.which(0, false), 0);
        x.undo();
        x.roll(1);
        Due.is("three strokes", x.which(0, false), 0);
        Due.is("hand -1", x.which(-1, true), -2);
        Due.is("hand 1", x.which(1, false), -2);
        RolledOut y = new RolledOut();
        y.hand(1);
        Due.read(y, "moves 0;tears 0;");
        y.by(0);
        Due.is("all strokes move nothing", y.which(0, false), 24 + 24 * 24);
        Due.is("the first of them", y.which(0, true), 0);
        y.dough(0, 0);
        y.image();
        Due.is("from a cell with dough", y.which(0, false), 22 + 22 * 22);
        Due.is("the lowest of them", y.which(0, true), 2);
        y.by(-1);
        y.stroke(0, 5, false);
        y.dough(5, 20);
        y.dough(4, 20);
        Due.is("none moves nothing", y.which(0, false), 0);
        RolledOut z = new RolledOut();
        z.roll(5);
        z.hand(1);
        Due.read(z, "moves turn+1;");
        z.by(0);
        Due.is("six at turn 5", z.stroke(0, 5, true), 6);
        Due.is("the turn is as now", z.which(0, false), 1);
        Due.is("it is that stroke", z.which(0, true), 11);
        Due.lay(z, 20, 20, 20, 20, 20, 8, 32);
        Due.is("two of six", z.which(0, false), 1);
        Due.is("the first of the two", z.which(0, true), 11);
        z.by(-1);
        Due.is("the law is as now", z.which(0, false), 0);
        RolledOut w = new RolledOut();
        w.hand(1);
        w.dough(3, 4);
        w.image();
        w.stroke(0, 3, true);
        Due.is("torn as now", w.which(0, false), 1);
        w.stroke(0, 2, true);
        w.stroke(0, 1, true);
        w.trim();
        Due.is("by three", w.which(0, false), 0);
    }

    // 42
    private static void likely() {
        RolledOut x = new RolledOut();
        Due.is("no hand", x.likely(0, false), -1);
        Due.is("no hand, low", x.likely(0, true), -1);
        x.hand(2);
        Due.is("none tears", x.likely(0, false), 0);
        Due.is("of one", x.likely(0, true), 1);
        x.dough(2, 4);
        x.dough(3, 0);
        x.dough(4, 5);
        x.dough(5, 6);
        Due.is("one cell tears, both ways", x.likely(0, false), 1);
        Due.is("of twelve", x.likely(0, true), 12);
        Due.read(x, "tears 99;");
        x.by(0);
        Due.is("all but the empty", x.likely(0, false), 11);
        Due.is("of twelve", x.likely(0, true), 12);
        x.dough(3, 9);
        Due.is("all", x.likely(0, false), 1);
        Due.is("of one", x.likely(0, true), 1);
        x.stroke(0, 0, true);
        Due.is("a torn one doesn't", x.likely(0, false), 11);
        Due.is("of twelve then", x.likely(0, true), 12);
        Due.is("hand -1", x.likely(-1, true), -1);
    }

    // 45, 46
    private static void townsApart() {
        RolledOut x = new RolledOut();
        Due.is("none", x.apart(), -1);
        Due.is("none fell", x.fallen(), 0);
        x.town(0);
        Due.is("one", x.apart(), -1);
        x.town(11);
        Due.is("two", x.apart(), 11);
        x.town(7);
        Due.is("three", x.apart(), 4);
        x.town(7);
        Due.is("in one cell", x.apart(), 0);
        x.hand(1);
        Due.read(x, "moves dough;");
        x.by(0);
        x.stroke(0, 0, false);
        Due.is("fell", x.fallen(), 1);
        x.stroke(0, 7, true);
        x.stroke(0, 8, true);
        x.stroke(0, 9, true);
        x.stroke(0, 10, true);
        Due.is("all in 11", x.of(11, 2), 14);
        x.stroke(0, 11, true);
        Due.is("all fell", x.fallen(), 15);
        Due.is("fallen ones aside", x.apart(), -1);
    }

    // 47, 48
    private static void whoseLaw() {
        RolledOut x = new RolledOut();
        Due.is("no hand", x.said(0, 0, 1), -2);
        Due.is("none any more", x.said(-1, 0, 0), 0);
        Due.is("no texts", x.whose(), 0);
        x.hand(3);
        Due.read(x, "moves strength;");
        Due.read(x, "tears 1;");
        Due.read(x, "moves next/2;");
        Due.read(x, "moves if right=1 then 10 else 0 end;");
        Due.is("nothing said: all", x.whose(), 15);
        Due.is("said", x.said(0, 4, 10), 1);
        Due.is("by three", x.whose(), 14);
        x.dough(4, 21);
        x.dough(5, 22);
        Due.is("as now", x.whose(), 2 | 8);
        Due.is("cell 12", x.said(0, 12, 0), -2);
        Due.is("cell -1", x.said(0, -1, 0), -2);
        Due.is("moves 10000", x.said(0, 0, 10000), -2);
        Due.is("moves -1", x.said(0, 0, -1), -2);
        Due.is("hand 1", x.said(1, 0, 0), -2);
        Due.is("hand -2", x.said(-2, 0, 0), -2);
        x.said(-1, 5, 5);
        for (int i = 1; i <= 8; i++) {
            Due.is("said " + i, x.said(0, i, 3), i);
        }
        Due.is("a ninth", x.said(0, 1, 3), -2);
        Due.is("about(5)", x.about(5), 8);
        Due.is("whose", x.whose(), 1);
        Due.is("none", x.said(-1, 99, -99), 0);
        Due.is("said 9999", x.said(0, 0, 9999), 1);
        Due.is("of none", x.whose(), 0);
        x.roll(1);
        x.undo();
        Due.is("undo leaves it", x.about(5), 1);
    }

    // 49
    private static void ledgers() {
        RolledOut x = new RolledOut();
        Due.is("of all", x.ledger(-1), 0);
        Due.is("no hand", x.ledger(0), -2);
        x.hand(1);
        x.hand(1);
        x.stroke(0, 0, false);
        x.stroke(1, 0, false);
        x.stroke(0, 4, false);
        Due.is("hand 0", x.ledger(0), 20);
        Due.is("hand 1", x.ledger(1), 5);
        Due.is("all", x.ledger(-1), 25);
        Due.is("hand 2", x.ledger(2), -2);
        Due.is("hand -2", x.ledger(-2), -2);
        for (int i = 0; i < 30; i++) {
            x.dough(6, 2);
            x.stroke(1, 6, true);
        }
        Due.is("the latest thirty alone", x.ledger(-1), 30);
        Due.is("none by hand 0", x.ledger(0), 0);
        x.undo();
        Due.is("one is back", x.ledger(0), 10);
    }

    // 50, 51
    private static void images() {
        RolledOut x = new RolledOut();
        x.hand(4);
        x.town(5);
        x.dough(3, 33);
        Due.read(x, "moves 12;");
        x.by(0);
        x.said(0, 5, 12);
        x.roll(2);
        x.stroke(0, 5, true);
        Due.is("image", x.image(), 2);
        int drawn = x.is(1);
        int sum = x.folds();
        int town = x.ofTown(0);
        int books = x.book(-1, 0);
        x.hand(5);
        x.town(1);
        Due.read(x, "trim;");
        x.by(-1);
        x.said(1, 5, 12);
        x.roll(40);
        x.trim();
        Due.put(x, "hand 1");
        for (int i = 0; i < 2; i++) {
            Due.is("back", x.back(), 2);
            Due.is("X", x.is(1), drawn);
            Due.is("folds", x.folds(), sum);
            Due.is("town", x.ofTown(0), town);
            Due.is("towns", x.about(1), 1);
            Due.is("hands", x.about(0), 1);
            Due.is("texts", x.about(2), 1);
            Due.is("the text", x.about(3), 0);
            Due.is("steps", x.about(4), 3);
            Due.is("said", x.about(5), 1);
            Due.is("the tape stays", x.about(6), 6);
            Due.is("book", x.book(-1, 0), books);
            Due.is("undo", x.undo(), 2);
            Due.is("undo", x.undo(), 1);
            Due.is("undo", x.undo(), 0);
            Due.is("turn", x.is(0), 0);
            Due.is("X at first", x.is(1), 281);
            x.dough(3, 1);
            x.roll(33);
        }
        x.back();
        x.undo();
        x.undo();
        x.undo();
        Due.is("told behind the image isn't in its steps", x.of(3, 0), 33);
    }

    // 52
    private static void abouts() {
        RolledOut x = new RolledOut();
        x.hand(1);
        x.hand(1);
        x.town(1);
        Due.read(x, "trim;");
        Due.read(x, "trim;");
        Due.read(x, "trim;");
        x.by(2);
        x.roll(4);
        x.said(0, 0, 0);
        x.said(0, 0, 0);
        x.feed(1, 2, 3, 4, 5);
        int[] about = {2, 1, 3, 2, 4, 2, 20};
        for (int i = 0; i < about.length; i++) {
            Due.is("about " + i, x.about(i), about[i]);
        }
    }
}
