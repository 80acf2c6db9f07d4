/** Boundary cases of years by a seed: promise 15. */
final class EdgesYears {
    private EdgesYears() {
    }

    @Says(promise = 15, words = "`int years(int seed, int n)`: YEARS: TURN. NONE for others.")
    static void otherSeedsAndOtherYearsAreNone() {
        RolledOut x = Due.made(1);
        String ahead = Due.all(x);
        for (int other : new int[] {-1, 10000, Integer.MIN_VALUE, Integer.MAX_VALUE}) {
            Due.is("seed " + other, x.years(other, 1), -1);
        }
        for (int other : new int[] {0, 41, -1, Integer.MIN_VALUE, Integer.MAX_VALUE}) {
            Due.is("n " + other, x.years(0, other), -1);
        }
        Due.same("nothing is done", Due.all(x), ahead);
    }

    @Says(promise = 15, words = "X is SEED (0 .. 9999) * 2 + 281; n times (1 .. 40)")
    static void theFirstAndTheLastSeed() {
        // 281 and 20279 are 5 mod 6: a turn, and without hands no draw in it
        RolledOut x = new RolledOut();
        Due.is("seed 0", x.years(0, 1), 1);
        Due.is("X", x.is(1), Due.drawn(281, 1));
        Due.is("seed 9999", x.years(9999, 1), 2);
        Due.is("X", x.is(1), Due.drawn(20279, 1));
        Due.is("seed 0 again", x.years(0, 1), 3);
        Due.is("X is anew by the seed", x.is(1), Due.drawn(281, 1));
    }

    @Says(promise = 15, words = "n times (1 .. 40): x is X, then X is anew (as in a draw)")
    static void fortyYearsAreTheMost() {
        RolledOut x = new RolledOut();
        int turns = 0;
        for (int i = 0; i < 40; i++) {
            turns += Due.drawn(281, i) % 6 >= 4 ? 1 : 0;
        }
        Due.is("years(0, 40)", x.years(0, 40), turns);
        Due.is("X", x.is(1), Due.drawn(281, 40));
        x.undo();
        x.years(0, 39);
        Due.is("X behind 39", x.is(1), Due.drawn(281, 39));
    }

    @Says(promise = 15, words = "0, 1 HAND x mod how many strokes from CELL x / 6 mod 12 to the right, if x mod 4 is above 1, else to the left")
    static void aStrokeOf1Mod6() {
        for (int hands = 1; hands <= 4; hands++) {
            RolledOut x = new RolledOut();
            for (int i = 0; i < hands; i++) {
                x.hand(1);
            }
            // 283 is 1 mod 6 and 3 mod 4; 283 / 6 is 47
            Due.is("seed 1", x.years(1, 1), 0);
            Due.is("one stroke", x.book(-1, 0), 1);
            Due.is("hand", x.book(0, 1), 283 % hands);
            Due.is("from 11 to the right", x.book(0, 2), 23);
            Due.is("edge", x.is(3), 10);
            // 289 is 1 mod 6 and 1 mod 4; 289 / 6 is 48
            Due.is("seed 4", x.years(4, 1), 0);
            Due.is("hand", x.book(1, 1), 289 % hands);
            Due.is("from 0 to the left", x.book(1, 2), 0);
            Due.is("edge", x.is(3), 20);
            Due.is("X", x.is(1), Due.drawn(289, 1));
        }
    }

    @Says(promise = 15, words = "0, 1 HAND x mod how many strokes from CELL x / 6 mod 12 to the right, if x mod 4 is above 1, else to the left")
    static void aStrokeOf0Mod6() {
        // 567 is 3 mod 6, its cell isn't torn; then 36 is 0 mod 6 and 0 mod 4
        RolledOut x = Due.made(1);
        x.years(143, 2);
        Due.is("one stroke", x.book(-1, 0), 1);
        Due.is("from 6 to the left", x.book(0, 2), 12);
        // 573 is 3 mod 6; then 3282 is 0 mod 6 and 2 mod 4; 3282 / 6 is 547
        x.years(146, 2);
        Due.is("two strokes", x.book(-1, 0), 2);
        Due.is("from 7 to the right", x.book(1, 2), 15);
        Due.is("turn", x.book(1, 0), 0);
    }

    @Says(promise = 15, words = "What there are none of isn't.")
    static void withoutHandsThereIsNoStroke() {
        RolledOut x = new RolledOut();
        Due.is("seed 1", x.years(1, 1), 0);
        Due.is("nothing is written", x.book(-1, 0), 0);
        Due.row(x, 20, 20, 20, 20, 20, 20, 20, 20, 20, 20, 20, 20);
        Due.is("X", x.is(1), Due.drawn(283, 1));
        Due.is("it is a step", x.about(4), 1);
    }

    @Says(promise = 15, words = "(each if it can be)")
    static void aCellWithoutDoughIsNotStroked() {
        RolledOut x = Due.made(1);
        x.dough(11, 0);
        x.years(1, 1);
        Due.is("nothing is written", x.book(-1, 0), 0);
        Due.is("it doesn't tear", x.is(4), 0);
        x.dough(11, 1);
        x.years(1, 1);
        Due.is("with 1 it is", x.book(-1, 0), 1);
        Due.is("and tears", x.is(4), 1 << 11);
    }

    @Says(promise = 15, words = "2 TRIMMED")
    static void aTrimOf2Mod6() {
        // 345 is 3 mod 6, its cell isn't torn; then 2786 is 2 mod 6
        RolledOut x = Due.made(1);
        x.years(32, 2);
        Due.is("nothing hangs over", x.is(2), 0);
        Due.is("X", x.is(1), 2708);
        x.stroke(0, 0, false);
        x.stroke(0, 11, true);
        x.years(32, 1);
        Due.is("the first year trims nothing", x.is(3), 20);
        x.years(32, 2);
        Due.is("ball", x.is(2), 20);
        Due.is("edge", x.is(3), 0);
        x.stroke(0, 0, false);
        x.years(32, 2);
        Due.is("more to the ball", x.is(2), 25);
    }

    /** Cell 0 is torn with 1; so much is in the ball. */
    private static RolledOut torn(int ball) {
        RolledOut x = Due.ruled("moves dough-1;");
        x.dough(0, 1 + ball);
        x.stroke(0, 0, false);
        Due.is("trim()", x.trim(), ball);
        return x;
    }

    @Says(promise = 15, words = "3 CELL x / 6 mod 12 is PATCHED with 1 and x mod 9 (each if it can be)")
    static void aPatchOf3Mod6() {
        // 291 is 3 mod 6 and 3 mod 9; 291 / 6 is 48
        RolledOut x = torn(3);
        x.years(5, 1);
        Due.is("4 of a ball of 3", x.of(0, 1), 1);
        Due.is("ball", x.is(2), 3);
        x = torn(4);
        x.years(5, 1);
        Due.is("4 of a ball of 4", x.of(0, 1), 0);
        Due.is("ball", x.is(2), 0);
        Due.is("of 0", x.of(0, 0), 5);
        x = torn(20);
        x.years(5, 1);
        x.years(5, 1);
        Due.is("once, as it isn't torn then", x.of(0, 0), 5);
        Due.is("ball", x.is(2), 16);
        Due.is("each is a step", x.about(4), 4);
    }

    @Says(promise = 15, words = "is PATCHED with 1 and x mod 9 (each if it can be)")
    static void theBallMustHaveAsMuch() {
        // 573 is 6 mod 9: cell 11 is patched with 7; 567 is 0 mod 9: cell 10 with 1
        int[] ball = {6, 7, 8};
        int[] left = {6, 0, 1};
        for (int i = 0; i < 3; i++) {
            RolledOut x = Due.ruled("moves dough-1;");
            x.dough(11, 1 + ball[i]);
            x.stroke(0, 11, true);
            x.trim();
            x.years(146, 1);
            Due.is("ball of " + ball[i], x.is(2), left[i]);
            Due.is("torn", x.of(11, 1), ball[i] < 7 ? 1 : 0);
        }
        RolledOut y = Due.ruled("moves 1;tears 99;");
        y.stroke(0, 0, false);
        y.stroke(0, 10, true);
        y.years(143, 1);
        Due.is("no ball", y.of(10, 1), 1);
        y.trim();
        y.years(143, 1);
        Due.is("a ball of 1", y.of(10, 1), 0);
        Due.is("of 10", y.of(10, 0), 20);
        Due.is("ball", y.is(2), 0);
    }

    @Says(promise = 15, words = "is PATCHED with 1 and x mod 9")
    static void patchesOf1AndOf7() {
        // 567 is 0 mod 9, from cell 10; 573 is 6 mod 9, from cell 11
        RolledOut x = Due.ruled("moves 18;");
        x.stroke(0, 10, true);
        x.dough(11, 19);
        x.stroke(0, 11, true);
        x.trim();
        x.years(143, 1);
        Due.is("of 10", x.of(10, 0), 3);
        Due.is("torn", x.is(4), 1 << 11);
        x.years(146, 1);
        Due.is("of 11", x.of(11, 0), 8);
        Due.is("torn", x.is(4), 0);
        Due.is("ball", x.is(2), 10);
    }

    @Says(promise = 15, words = "4, 5 a TURN (if it can pass)")
    static void aTurnOf4AndOf5Mod6() {
        // 459 is 3 mod 6; then 3034 is 4 mod 6
        RolledOut x = new RolledOut();
        Due.is("4 mod 6", x.years(89, 2), 1);
        Due.is("5 mod 6", x.years(0, 1), 2);
        RolledOut y = Due.made(1, 1);
        // the year draws 281, the turn 29588 and 6054: cell 8, to the left
        Due.is("with hands", y.years(0, 1), 1);
        Due.is("from 8 to the left", y.book(0, 2), 16);
        Due.is("hand", y.book(0, 1), 0);
        Due.is("turn", y.book(0, 0), 0);
        Due.is("X behind three draws", y.is(1), 20055);
        y.years(0, 1);
        Due.is("hand of turn 1", y.book(1, 1), 1);
    }

    @Says(promise = 15, words = "4, 5 a TURN (if it can pass)")
    static void noTurnOfYearsIsBeyond9999() {
        RolledOut x = new RolledOut();
        Due.pass(x, 9998);
        Due.is("one can pass", x.years(0, 40), 9999);
        Due.is("X", x.is(1), Due.drawn(281, 40));
        x.hand(1);
        Due.is("none can pass", x.years(0, 1), 9999);
        Due.is("no draw of a turn", x.is(1), 29588);
        Due.is("no stroke", x.book(-1, 0), 0);
        x.years(1, 1);
        Due.is("a stroke can be", x.book(-1, 0), 1);
        Due.is("in turn 9999", x.book(0, 0), 9999);
    }

    @Says(promise = 15, words = "It is one STEP: TURN.")
    static void yearsAreOneStep() {
        RolledOut x = Due.made(4, 5, 6);
        x.town(5);
        x.stroke(0, 3, true);
        String ahead = Due.all(x);
        x.years(123, 40);
        Due.is("about(4)", x.about(4), 2);
        Due.is("undo()", x.undo(), 1);
        Due.same("as ahead of it", Due.all(x), ahead);
        for (int i = 0; i < 31; i++) {
            x.years(i, 3);
        }
        Due.is("thirty at most", x.about(4), 30);
    }
}
