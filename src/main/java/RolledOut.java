import java.util.Arrays;

/** A sheet of dough that hands stroke to the left and to the right: the land of ../shared/DOC.md. */
public final class RolledOut {
    public static final int NONE = -1;

    private static final int OTHER = -2;
    private static final int NO_GAME = -9999;
    private static final int CELLS = 12;
    private static final int HANDS = 4;
    private static final int TOWNS = 6;
    private static final int TEXTS = 4;
    private static final int STEPS = 30;
    private static final int BOOK = 30;
    private static final int SAID = 8;
    private static final int STROKES = 2 * CELLS;
    private static final int FIRST_DOUGH = 20;
    private static final int MOST_TOLD = 999;
    private static final int FIRST_DRAW = 281;
    private static final int LAST_TURN = 9999;
    private static final int MOST_NUMBER = 9999;
    private static final int MOST_STRENGTH = 9;
    private static final int MOST_PATCH = 99;
    private static final int MOST_TEARS = 99;
    private static final int USUAL_TEARS = 3;
    private static final int MOST_ROLL = 60;
    private static final int MOST_YEARS = 40;
    private static final int MOST_PARTS = 6;
    private static final int MOST_LONG = 6;
    private static final int MOST_PLAN = 3;
    private static final int TAPE = 300;

    private final World now = new World();
    private final World kept = new World();
    private final Rules rules = new Rules(now);
    private final Trials trials = new Trials(now, kept, rules);
    private final Shape shape = new Shape();
    private final Tape tape = new Tape();
    private final Reader reader = new Reader(tape);

    public RolledOut() {
    }

    // ---- what is told

    public int hand(int strength) {
        if (strength < 1 || strength > MOST_STRENGTH || now.hands >= HANDS) {
            return NONE;
        }
        now.strengths[now.hands] = strength;
        now.hands++;
        return now.hands - 1;
    }

    public boolean dough(int cell, int dough) {
        if (!isCell(cell) || dough < 0 || dough > MOST_TOLD) {
            return false;
        }
        now.tellDough(cell, dough);
        return true;
    }

    public int town(int cell) {
        if (!isCell(cell) || now.towns >= TOWNS) {
            return NONE;
        }
        now.tellTown(cell);
        return now.towns - 1;
    }

    public int feed(int a, int b, int c, int d, int e) {
        if (!tape.hasRoomFor(20)) {
            return NONE;
        }
        tape.takeFour(a);
        tape.takeFour(b);
        tape.takeFour(c);
        tape.takeFour(d);
        tape.takeFour(e);
        return tape.length;
    }

    public int end(int n) {
        if (n < 0 || n > tape.length) {
            return NONE;
        }
        tape.length = n;
        return n;
    }

    public int text() {
        if (now.textCount >= TEXTS) {
            return NONE;
        }
        Text read = reader.readTape();
        if (read == null) {
            return NONE;
        }
        now.texts[now.textCount] = read;
        now.textCount++;
        return now.textCount - 1;
    }

    public int fault(int what) {
        if (!reader.hasRead) {
            return NONE;
        }
        return what == 0 ? reader.fault : what == 1 ? reader.faultAt : NONE;
    }

    public boolean by(int text) {
        if (text != NONE && !isText(text)) {
            return false;
        }
        now.law = text;
        return true;
    }

    // ---- what is done

    public int stroke(int hand, int cell, boolean right) {
        if (!isHand(hand) || !isCell(cell) || now.sheet.cells[cell] <= 0) {
            return NONE;
        }
        now.keepStep();
        return rules.push(now.sheet, hand, cell, right);
    }

    public int trim() {
        int over = now.sheet.edge;
        if (over <= 0) {
            return NONE;
        }
        now.keepStep();
        now.sheet.cutOff();
        return over;
    }

    public boolean patch(int cell, int n) {
        if (!isCell(cell) || n < 1 || n > MOST_PATCH || !now.sheet.canMend(cell, n)) {
            return false;
        }
        now.keepStep();
        now.sheet.mend(cell, n);
        return true;
    }

    public int roll(int n) {
        if (n < 1 || n > MOST_ROLL || n > LAST_TURN - now.sheet.turn) {
            return NONE;
        }
        int before = now.sheet.torn;
        passTurns(n);
        return Integer.bitCount(now.sheet.torn & ~before);
    }

    public int played(int text) {
        if (!isText(text)) {
            return OTHER;
        }
        int[] clauses = now.texts[text].clauses;
        for (int i = 0; i + 2 < clauses.length; i += 3) {
            if (!isDone(clauses[i], clauses[i + 1], clauses[i + 2])) {
                return i / 3;
            }
        }
        return NONE;
    }

    public int years(int seed, int n) {
        if (seed < 0 || seed > MOST_NUMBER || n < 1 || n > MOST_YEARS) {
            return NONE;
        }
        now.keepStep();
        now.sheet.draw = seed * 2 + FIRST_DRAW;
        for (int i = 0; i < n; i++) {
            rules.passYear(now.sheet);
        }
        return now.sheet.turn;
    }

    public int undo() {
        return now.takeBack();
    }

    // ---- what is so

    public int of(int cell, int what) {
        if (!isCell(cell)) {
            return NONE;
        }
        switch (what) {
            case 0: return now.sheet.cells[cell];
            case 1: return now.sheet.torn >> cell & 1;
            case 2: return now.sheet.townsIn(cell);
            case 3: return rules.tearing(now.sheet, cell);
            default: return NONE;
        }
    }

    public int ofTown(int town) {
        return isTown(town) ? now.sheet.homes[town] : OTHER;
    }

    public int ofHand(int hand) {
        return isHand(hand) ? now.strengths[hand] : NONE;
    }

    public int moves(int hand, int cell, boolean right) {
        if (!isHand(hand) || !isCell(cell)) {
            return NONE;
        }
        return rules.amount(now.movesOf(now.law), now.sheet, hand, cell, right);
    }

    public int is(int what) {
        switch (what) {
            case 0: return now.sheet.turn;
            case 1: return now.sheet.draw;
            case 2: return now.sheet.ball;
            case 3: return now.sheet.edge;
            case 4: return now.sheet.torn;
            case 5: return Shape.sum(now.sheet.cells, 0, CELLS);
            default: return OTHER;
        }
    }

    public int book(int i, int what) {
        int many = now.sheet.bookSize();
        if (i == NONE) {
            return many;
        }
        if (i < 0 || i >= many || what < 0 || what > 3) {
            return OTHER;
        }
        return now.sheet.bookPart(i, what);
    }

    // ---- what comes, and how the sheet lies

    public int foretold(int n, int what, int which) {
        boolean asked = what == 0 ? isCell(which) : what == 1 ? isTown(which) : what == 2;
        if (n < 1 || n > MOST_ROLL || !asked) {
            return OTHER;
        }
        Sheet then = trials.behind(n);
        return what == 0 ? then.cells[which] : what == 1 ? then.homes[which] : then.torn;
    }

    public int lake() {
        return Shape.water(now.sheet.cells);
    }

    public int glaze(int what) {
        return what < 0 || what > 2 ? NONE : Shape.glazed(now.sheet.cells, what);
    }

    public int rise(int i) {
        return shape.climb(now.sheet.cells, i);
    }

    public int folds() {
        return Shape.falls(now.sheet.cells);
    }

    public int peaks() {
        return Shape.tops(now.sheet.cells);
    }

    public int richest(int n) {
        return n < 1 || n > CELLS ? NONE : Shape.fullest(now.sheet.cells, n);
    }

    public int islands(int level) {
        return level < 0 || level > MOST_NUMBER ? NONE : Shape.rowsAbove(now.sheet.cells, level);
    }

    public int sees(int cell, boolean right) {
        return isCell(cell) ? Shape.firstHigher(now.sheet.cells, cell, right) : NONE;
    }

    public int middle(int k) {
        return k < 1 || k > CELLS ? NONE : Shape.leastButOthers(now.sheet.cells, k);
    }

    public int carried() {
        int[] from = kept.sheet.cells;
        int[] to = now.sheet.cells;
        if (Shape.sum(from, 0, CELLS) != Shape.sum(to, 0, CELLS)) {
            return NONE;
        }
        return Shape.way(from, to);
    }

    public int level() {
        return shape.wayToLevel(now.sheet.cells);
    }

    // ---- shares, games, patches and plans

    public int shared(int hands, int i) {
        if (hands < 1 || hands > MOST_PARTS || i < NONE || i >= hands) {
            return OTHER;
        }
        return shape.parts(now.sheet.cells, hands, i);
    }

    public int ends(int a, int b) {
        return isRow(a, b) ? shape.lead(now.sheet.cells, a, b) : NO_GAME;
    }

    public int endsFirst(int a, int b) {
        return isRow(a, b) ? shape.firstTaken(now.sheet.cells, a, b) : NONE;
    }

    public int patches(int long1, int long2, boolean cost) {
        if (long1 < 1 || long1 > MOST_LONG || long2 < 1 || long2 > MOST_LONG) {
            return NONE;
        }
        return shape.covers(now.sheet.torn, long1, long2, cost);
    }

    public int plan(int hand, int most, int i) {
        if (!isHand(hand) || most < 0 || most > MOST_NUMBER || i < NONE || i >= MOST_PLAN) {
            return OTHER;
        }
        int many = trials.fewest(hand, most);
        if (i == NONE) {
            return many;
        }
        return i < many ? trials.found[i] : OTHER;
    }

    public int best(int hand) {
        return isHand(hand) ? trials.flattest(hand) : NONE;
    }

    public int which(int hand, boolean first) {
        if (!isHand(hand)) {
            return OTHER;
        }
        trials.seekWays(hand);
        return first ? trials.lowestFirst() : trials.ways;
    }

    public int likely(int hand, boolean low) {
        if (!isHand(hand)) {
            return NONE;
        }
        int tearing = trials.tearingStrokes(hand);
        int common = Shape.commonPart(tearing, STROKES);
        return (low ? STROKES : tearing) / common;
    }

    public int thin() {
        return Shape.leastCell(now.sheet.cells);
    }

    public int thick() {
        return Shape.mostCell(now.sheet.cells);
    }

    public int apart() {
        return now.sheet.nearestTowns();
    }

    public int fallen() {
        return now.sheet.townsIn(NONE);
    }

    // ---- whose law, the ledger, the image

    public int said(int hand, int cell, int moves) {
        if (hand == NONE) {
            now.saidCount = 0;
            return 0;
        }
        boolean fits = isHand(hand) && isCell(cell) && moves >= 0 && moves <= MOST_NUMBER;
        if (!fits || now.saidCount >= SAID) {
            return OTHER;
        }
        now.tellSaid(hand, cell, moves);
        return now.saidCount;
    }

    public int whose() {
        int bits = 0;
        for (int text = 0; text < now.textCount; text++) {
            if (rules.isLawOfAllSaid(text)) {
                bits |= 1 << text;
            }
        }
        return bits;
    }

    public int ledger(int hand) {
        return hand == NONE || isHand(hand) ? now.sheet.movedBy(hand) : OTHER;
    }

    public int image() {
        kept.becomes(now);
        return now.sheet.turn;
    }

    public int back() {
        now.becomes(kept);
        return now.sheet.turn;
    }

    public int about(int what) {
        switch (what) {
            case 0: return now.hands;
            case 1: return now.towns;
            case 2: return now.textCount;
            case 3: return now.law;
            case 4: return now.stepCount;
            case 5: return now.saidCount;
            case 6: return tape.length;
            default: return OTHER;
        }
    }

    // ---- helpers of the face

    private static boolean isCell(int cell) {
        return cell >= 0 && cell < CELLS;
    }

    private static boolean isRow(int a, int b) {
        return a >= 0 && a <= b && b < CELLS;
    }

    private boolean isHand(int hand) {
        return hand >= 0 && hand < now.hands;
    }

    private boolean isTown(int town) {
        return town >= 0 && town < now.towns;
    }

    private boolean isText(int text) {
        return text >= 0 && text < now.textCount && now.texts[text] != null;
    }

    /** As many turns as can pass, up to n, each a step of its own: how many did. */
    private int passTurns(int n) {
        int passed = 0;
        for (int i = 0; i < n && now.sheet.turn < LAST_TURN; i++) {
            now.keepStep();
            rules.passTurn(now.sheet);
            passed++;
        }
        return passed;
    }

    private boolean isDone(int kind, int first, int second) {
        switch (kind) {
            case Kind.HAND: return hand(first) != NONE;
            case Kind.DOUGH: return dough(second, first);
            case Kind.TOWN: return town(first) != NONE;
            case Kind.LEFT: return stroke(second, first, false) != NONE;
            case Kind.RIGHT: return stroke(second, first, true) != NONE;
            case Kind.TRIM: return trim() != NONE;
            case Kind.PATCH: return patch(second, first);
            case Kind.TURN: return passTurns(first) == first;
            default: return true; // a law rules, it isn't done
        }
    }

    /** What a step may change: a step is taken back by laying an older sheet. */
    private static final class Sheet {
        final int[] cells = new int[CELLS];
        /** NONE for a town that fell, OTHER for one that isn't told yet. */
        final int[] homes = new int[TOWNS];
        /** The strokes in turn, each over the one thirty ahead of it. */
        final long[] book = new long[BOOK];
        int written;
        int torn;
        int edge;
        int ball;
        int turn;
        int draw = FIRST_DRAW;

        Sheet() {
            Arrays.fill(cells, FIRST_DOUGH);
            Arrays.fill(homes, OTHER);
        }

        void becomes(Sheet other) {
            laysAs(other);
            System.arraycopy(other.homes, 0, homes, 0, TOWNS);
            System.arraycopy(other.book, 0, book, 0, BOOK);
            written = other.written;
            ball = other.ball;
            draw = other.draw;
        }

        /** Only what a stroke and its laws look at, for the searches that try many. */
        void laysAs(Sheet other) {
            System.arraycopy(other.cells, 0, cells, 0, CELLS);
            torn = other.torn;
            edge = other.edge;
            turn = other.turn;
        }

        boolean laysLike(Sheet other) {
            return torn == other.torn && unlike(other) == 0;
        }

        /** The cells whose dough is another (bits), and the bit behind them if the edge's is. */
        int unlike(Sheet other) {
            int bits = edge == other.edge ? 0 : 1 << CELLS;
            for (int cell = 0; cell < CELLS; cell++) {
                if (cells[cell] != other.cells[cell]) {
                    bits |= 1 << cell;
                }
            }
            return bits;
        }

        /** X, which is anew behind it. */
        int drawn() {
            int x = draw;
            draw = (x * 541 + 419) % 30713;
            return x;
        }

        void cutOff() {
            ball += edge;
            edge = 0;
        }

        boolean canMend(int cell, int n) {
            return (torn >> cell & 1) == 1 && ball >= n;
        }

        void mend(int cell, int n) {
            ball -= n;
            cells[cell] += n;
            torn &= ~(1 << cell);
        }

        void carryTowns(int from, int to) {
            for (int town = 0; town < TOWNS; town++) {
                if (homes[town] == from) {
                    homes[town] = to;
                }
            }
        }

        int townsIn(int home) {
            int bits = 0;
            for (int town = 0; town < TOWNS; town++) {
                if (homes[town] == home) {
                    bits |= 1 << town;
                }
            }
            return bits;
        }

        int nearestTowns() {
            int nearest = NONE;
            for (int a = 0; a < TOWNS; a++) {
                for (int b = a + 1; b < TOWNS; b++) {
                    int far = Math.abs(homes[a] - homes[b]);
                    if (homes[a] >= 0 && homes[b] >= 0 && (nearest == NONE || far < nearest)) {
                        nearest = far;
                    }
                }
            }
            return nearest;
        }

        void write(int hand, int way, int much) {
            long who = (turn * 4L + hand) * 32 + way;
            book[written % BOOK] = who << 32 | much;
            // goes round above a full book, so that it never wraps below 0
            written = written + 1 < 2 * BOOK ? written + 1 : BOOK;
        }

        int bookSize() {
            return Math.min(written, BOOK);
        }

        int bookPart(int i, int what) {
            long stroke = book[(written - bookSize() + i) % BOOK];
            int who = (int) (stroke >> 32);
            switch (what) {
                case 0: return who >> 7;
                case 1: return who >> 5 & 3;
                case 2: return who & 31;
                default: return (int) stroke;
            }
        }

        int movedBy(int hand) {
            int sum = 0;
            for (int i = 0; i < bookSize(); i++) {
                if (hand == NONE || bookPart(i, 1) == hand) {
                    sum += bookPart(i, 3);
                }
            }
            return sum;
        }
    }

    /** All that an image keeps. */
    private static final class World {
        final Sheet sheet = new Sheet();
        /** The sheets ahead of the latest steps, round and round. */
        final Sheet[] steps = new Sheet[STEPS];
        int nextStep;
        int stepCount;
        final int[] strengths = new int[HANDS];
        int hands;
        int towns;
        final Text[] texts = new Text[TEXTS];
        int textCount;
        int law = NONE;
        /** A hand, a cell and how much, behind one another. */
        final int[] said = new int[3 * SAID];
        int saidCount;

        World() {
            for (int i = 0; i < STEPS; i++) {
                steps[i] = new Sheet();
            }
        }

        void becomes(World other) {
            sheet.becomes(other.sheet);
            for (int i = 0; i < STEPS; i++) {
                steps[i].becomes(other.steps[i]);
            }
            nextStep = other.nextStep;
            stepCount = other.stepCount;
            System.arraycopy(other.strengths, 0, strengths, 0, HANDS);
            hands = other.hands;
            towns = other.towns;
            for (int i = 0; i < TEXTS; i++) {
                texts[i] = other.texts[i];
            }
            textCount = other.textCount;
            law = other.law;
            System.arraycopy(other.said, 0, said, 0, said.length);
            saidCount = other.saidCount;
        }

        void keepStep() {
            steps[nextStep].becomes(sheet);
            nextStep = (nextStep + 1) % STEPS;
            stepCount = Math.min(stepCount + 1, STEPS);
        }

        int takeBack() {
            if (stepCount == 0) {
                return NONE;
            }
            nextStep = (nextStep + STEPS - 1) % STEPS;
            sheet.becomes(steps[nextStep]);
            stepCount--;
            return stepCount;
        }

        /** Told on the older sheets too: a step taken back leaves what was told since. */
        void tellDough(int cell, int dough) {
            sheet.cells[cell] = dough;
            for (int i = 0; i < STEPS; i++) {
                steps[i].cells[cell] = dough;
            }
        }

        /** Told on the older sheets too: a step taken back leaves what was told since. */
        void tellTown(int cell) {
            if (towns >= TOWNS) {
                return;
            }
            sheet.homes[towns] = cell;
            for (int i = 0; i < STEPS; i++) {
                steps[i].homes[towns] = cell;
            }
            towns++;
        }

        void tellSaid(int hand, int cell, int much) {
            int at = 3 * saidCount;
            if (at + 2 >= said.length) {
                return;
            }
            said[at] = hand;
            said[at + 1] = cell;
            said[at + 2] = much;
            saidCount++;
        }

        int[] movesOf(int text) {
            Text found = text < 0 || text >= textCount ? null : texts[text];
            return found == null ? Text.NO_LAW : found.moves;
        }

        int[] tearsOf(int text) {
            Text found = text < 0 || text >= textCount ? null : texts[text];
            return found == null ? Text.NO_LAW : found.tears;
        }
    }

    /** A text that was read: what it does, and its laws as steps for a stack. */
    private static final class Text {
        static final int[] NO_LAW = {};

        /** The kind and two numbers of each clause, behind one another. */
        final int[] clauses;
        final int[] moves;
        final int[] tears;

        Text(int[] clauses, int[] moves, int[] tears) {
            this.clauses = clauses;
            this.moves = moves;
            this.tears = tears;
        }
    }

    /** Strokes and turns on any sheet, by the hands and the law that are told. */
    private static final class Rules {
        static final long MOST = 1000000;

        private final World world;
        /** Eight open ones and five sides waiting in each need fewer. */
        private final long[] stack = new long[64];
        private Sheet sheet;
        private int hand;
        private int cell;
        private boolean right;

        Rules(World world) {
            this.world = world;
            this.sheet = world.sheet;
        }

        /** Strokes from a cell that has dough: how much went over. */
        int push(Sheet on, int by, int from, boolean toRight) {
            int had = on.cells[from];
            int much = amount(world.movesOf(world.law), on, by, from, toRight);
            int to = toRight ? from + 1 : from - 1;
            boolean over = to < 0 || to >= CELLS;
            on.cells[from] = had - much;
            if (over) {
                on.edge += much;
            } else {
                on.cells[to] += much;
            }
            if (much > had - much) {
                on.carryTowns(from, over ? NONE : to);
            }
            if (on.cells[from] < tearing(on, from)) {
                on.torn |= 1 << from;
            }
            on.write(by, 2 * from + (toRight ? 1 : 0), much);
            return much;
        }

        int amount(int[] law, Sheet on, int by, int from, boolean toRight) {
            int has = on.cells[from];
            if (law.length == 0) {
                return has / 2;
            }
            sheet = on;
            hand = by;
            cell = from;
            right = toRight;
            return (int) Math.max(0, Math.min(has, result(law)));
        }

        int tearing(Sheet on, int from) {
            int[] law = world.tearsOf(world.law);
            if (law.length == 0) {
                return USUAL_TEARS;
            }
            sheet = on;
            cell = from;
            return (int) Math.max(0, Math.min(MOST_TEARS, result(law)));
        }

        void passTurn(Sheet on) {
            if (world.hands > 0) {
                int from = on.drawn() % CELLS;
                boolean toRight = on.drawn() % 2 == 1;
                if (on.cells[from] > 0) {
                    push(on, on.turn % world.hands, from, toRight);
                }
            }
            on.turn++;
        }

        void passYear(Sheet on) {
            int x = on.drawn();
            int from = x / 6 % CELLS;
            switch (x % 6) {
                case 0:
                case 1:
                    if (world.hands > 0 && on.cells[from] > 0) {
                        push(on, x % world.hands, from, x % 4 > 1);
                    }
                    break;
                case 2:
                    on.cutOff();
                    break;
                case 3:
                    if (on.canMend(from, 1 + x % 9)) {
                        on.mend(from, 1 + x % 9);
                    }
                    break;
                default:
                    if (on.turn < LAST_TURN) {
                        passTurn(on);
                    }
                    break;
            }
        }

        boolean isLawOfAllSaid(int text) {
            int[] law = world.movesOf(text);
            int[] said = world.said;
            for (int i = 0; i < 3 * world.saidCount && i + 2 < said.length; i += 3) {
                if (amount(law, world.sheet, said[i], said[i + 1], true) != said[i + 2]) {
                    return false;
                }
            }
            return true;
        }

        /** What the steps of a law leave on the stack; leaps go forward alone, so it ends. */
        private long result(int[] law) {
            int top = 0;
            for (int at = 0; at < law.length; at++) {
                int what = law[at] % Kind.BASE;
                int given = law[at] / Kind.BASE;
                if (what == Kind.LEAP) {
                    at = Math.max(at, given - 1);
                } else if (what == Kind.UNLESS) {
                    top = Math.max(0, top - 1);
                    at = stack[top] == 0 ? Math.max(at, given - 1) : at;
                } else if (what >= Kind.OR && what <= Kind.SPLIT) {
                    top = Math.max(0, top - 2);
                    long both = joined(what, stack[top], stack[top + 1]);
                    stack[top] = Math.max(-MOST, Math.min(MOST, both));
                    top++;
                } else if (what >= Kind.NOT && what <= Kind.SHEET || what == Kind.NEGATE) {
                    int last = Math.max(0, top - 1);
                    stack[last] = changed(what, stack[last]);
                } else if (top < stack.length - 1) {
                    stack[top] = what == Kind.NUMBER ? given : named(what);
                    top++;
                }
            }
            return stack[0];
        }

        private long named(int name) {
            int to = right ? cell + 1 : cell - 1;
            boolean over = to < 0 || to >= CELLS;
            switch (name) {
                case Kind.TURN: return sheet.turn;
                case Kind.CELL: return cell;
                case Kind.DOUGH: return sheet.cells[cell];
                case Kind.TORN: return sheet.torn >> cell & 1;
                case Kind.STRENGTH: return world.strengths[hand];
                case Kind.WHO: return hand;
                case Kind.NEXT: return over ? sheet.edge : sheet.cells[to];
                case Kind.RIGHT: return right ? 1 : 0;
                default: return 0;
            }
        }

        private long changed(int what, long one) {
            switch (what) {
                case Kind.NOT: return one == 0 ? 1 : 0;
                case Kind.NEGATE: return -one;
                case Kind.SQUARE: return one * one > MOST ? MOST : one * one;
                default: return one < 0 || one >= CELLS ? 0 : sheet.cells[(int) one];
            }
        }

        private static long joined(int what, long a, long b) {
            switch (what) {
                case Kind.OR: return a | b;
                case Kind.AND: return a & b;
                case Kind.AT_MOST: return a <= b ? 1 : 0;
                case Kind.AT_LEAST: return a >= b ? 1 : 0;
                case Kind.LESS: return a < b ? 1 : 0;
                case Kind.MORE: return a > b ? 1 : 0;
                case Kind.LIKE: return a == b ? 1 : 0;
                case Kind.UNLIKE: return a != b ? 1 : 0;
                case Kind.PLUS: return a + b;
                case Kind.MINUS: return a - b;
                case Kind.TIMES: return a * b;
                default: return b == 0 ? 0 : a / b;
            }
        }
    }

    /** What strokes would do, tried on sheets of its own. */
    private static final class Trials {
        private final World world;
        private final World kept;
        private final Rules rules;
        private final Sheet[] tries = new Sheet[MOST_PLAN + 1];
        final int[] found = new int[MOST_PLAN];
        int ways;
        private int lowestOfOne;
        private int lowestOfTwo;

        Trials(World world, World kept, Rules rules) {
            this.world = world;
            this.kept = kept;
            this.rules = rules;
            for (int i = 0; i < tries.length; i++) {
                tries[i] = new Sheet();
            }
        }

        Sheet behind(int turns) {
            Sheet then = tries[0];
            then.becomes(world.sheet);
            for (int i = 0; i < turns && then.turn < LAST_TURN; i++) {
                rules.passTurn(then);
            }
            return then;
        }

        /** A stroke from the sheet at that place, done on the one behind it; false, if it can't be. */
        private boolean tried(int at, int hand, int stroke) {
            int cell = stroke / 2;
            if (tries[at].cells[cell] <= 0) {
                return false;
            }
            tries[at + 1].laysAs(tries[at]);
            rules.push(tries[at + 1], hand, cell, stroke % 2 == 1);
            return true;
        }

        int flattest(int hand) {
            int lowest = NONE;
            int least = 0;
            tries[0].laysAs(world.sheet);
            for (int stroke = 0; stroke < STROKES; stroke++) {
                if (tried(0, hand, stroke)) {
                    int[] cells = tries[1].cells;
                    int most = cells[Shape.mostCell(cells)];
                    if (lowest == NONE || most < least) {
                        lowest = stroke;
                        least = most;
                    }
                }
            }
            return lowest;
        }

        int tearingStrokes(int hand) {
            int many = 0;
            tries[0].laysAs(world.sheet);
            for (int stroke = 0; stroke < STROKES; stroke++) {
                if (tried(0, hand, stroke) && tries[1].torn != tries[0].torn) {
                    many++;
                }
            }
            return many;
        }

        /** How many strokes a plan needs, these being in found then; OTHER: there is none. */
        int fewest(int hand, int most) {
            tries[0].laysAs(world.sheet);
            for (int many = 0; many <= MOST_PLAN; many++) {
                if (isPlan(0, many, hand, most)) {
                    return many;
                }
            }
            return OTHER;
        }

        /** A stroke lessens one cell alone: with as many cells above as strokes left, each must go from one of these. */
        private boolean isPlan(int at, int many, int hand, int most) {
            int above = Shape.cellsAbove(tries[at].cells, most);
            if (at >= many || above > many - at) {
                return above == 0;
            }
            boolean each = above == many - at;
            for (int stroke = 0; stroke < STROKES; stroke++) {
                boolean helps = !each || tries[at].cells[stroke / 2] > most;
                if (helps && tried(at, hand, stroke) && tries[at + 1].torn == tries[at].torn) {
                    found[at] = stroke;
                    if (isPlan(at + 1, many, hand, most)) {
                        return true;
                    }
                }
            }
            return false;
        }

        void seekWays(int hand) {
            ways = 0;
            lowestOfOne = NONE;
            lowestOfTwo = NONE;
            tries[0].laysAs(kept.sheet);
            tries[0].turn = world.sheet.turn;
            for (int stroke = 0; stroke < STROKES; stroke++) {
                if (tried(0, hand, stroke)) {
                    if (tries[1].laysLike(world.sheet)) {
                        ways++;
                        lowestOfOne = lowestOfOne == NONE ? stroke : lowestOfOne;
                    }
                    seekSecond(hand, stroke);
                }
            }
        }

        /** A stroke changes two places alone: it isn't tried while a third is unlike. */
        private void seekSecond(int hand, int first) {
            int unlike = tries[1].unlike(world.sheet);
            for (int stroke = 0; stroke < STROKES; stroke++) {
                if ((unlike & ~touched(stroke)) == 0 && tried(1, hand, stroke)
                        && tries[2].laysLike(world.sheet)) {
                    ways++;
                    lowestOfTwo = lowestOfTwo == NONE ? first : lowestOfTwo;
                }
            }
        }

        private static int touched(int stroke) {
            int cell = stroke / 2;
            int to = stroke % 2 == 1 ? cell + 1 : cell - 1;
            return 1 << cell | 1 << (to < 0 ? CELLS : to);
        }

        int lowestFirst() {
            return lowestOfOne == NONE ? lowestOfTwo : lowestOfOne;
        }
    }

    /** How a row of cells lies. */
    private static final class Shape {
        private static final int ENDS = CELLS + 1;

        private final int[] row = new int[ENDS];
        private final int[] table = new int[(MOST_PARTS + 1) * ENDS];

        static int sum(int[] cells, int from, int to) {
            int sum = 0;
            for (int i = Math.max(0, from); i < to && i < cells.length; i++) {
                sum += cells[i];
            }
            return sum;
        }

        static int water(int[] cells) {
            int water = 0;
            for (int i = 0; i < CELLS; i++) {
                int left = 0;
                int right = 0;
                for (int j = 0; j < CELLS; j++) {
                    if (j <= i) {
                        left = Math.max(left, cells[j]);
                    }
                    if (j >= i) {
                        right = Math.max(right, cells[j]);
                    }
                }
                water += Math.min(left, right) - cells[i];
            }
            return water;
        }

        static int glazed(int[] cells, int what) {
            int most = NONE;
            int first = 0;
            int many = 0;
            for (int from = 0; from < CELLS; from++) {
                int least = cells[from];
                for (int to = from; to < CELLS; to++) {
                    least = Math.min(least, cells[to]);
                    int much = least * (to - from + 1);
                    if (much > most) {
                        most = much;
                        first = from;
                        many = to - from + 1;
                    }
                }
            }
            return what == 0 ? most : what == 1 ? first : many;
        }

        /** How many a rise has (i NONE), or its i-th cell; row tells how many rise from each cell on. */
        int climb(int[] cells, int i) {
            int longest = 0;
            for (int from = CELLS - 1; from >= 0; from--) {
                row[from] = 1;
                for (int to = from + 1; to < CELLS; to++) {
                    if (cells[to] > cells[from]) {
                        row[from] = Math.max(row[from], row[to] + 1);
                    }
                }
                longest = Math.max(longest, row[from]);
            }
            if (i == NONE) {
                return longest;
            }
            if (i < 0 || i >= longest) {
                return OTHER;
            }
            return climbed(cells, longest, i);
        }

        private int climbed(int[] cells, int longest, int i) {
            int height = NONE;
            int want = longest;
            for (int cell = 0; cell < CELLS; cell++) {
                if (row[cell] == want && cells[cell] > height) {
                    if (longest - want == i) {
                        return cell;
                    }
                    height = cells[cell];
                    want--;
                }
            }
            return OTHER;
        }

        static int falls(int[] cells) {
            int pairs = 0;
            for (int a = 0; a < CELLS; a++) {
                for (int b = a + 1; b < CELLS; b++) {
                    if (cells[a] > cells[b]) {
                        pairs++;
                    }
                }
            }
            return pairs;
        }

        static int tops(int[] cells) {
            int bits = 0;
            for (int i = 0; i < CELLS; i++) {
                boolean overLeft = i == 0 || cells[i] > cells[i - 1];
                boolean overRight = i == CELLS - 1 || cells[i] > cells[i + 1];
                if (overLeft && overRight) {
                    bits |= 1 << i;
                }
            }
            return bits;
        }

        static int fullest(int[] cells, int n) {
            int found = 0;
            int most = NONE;
            for (int from = 0; from + n <= CELLS; from++) {
                int much = sum(cells, from, from + n);
                if (much > most) {
                    most = much;
                    found = from;
                }
            }
            return found;
        }

        static int leastCell(int[] cells) {
            int found = 0;
            for (int i = 1; i < CELLS; i++) {
                if (cells[i] < cells[found]) {
                    found = i;
                }
            }
            return found;
        }

        static int mostCell(int[] cells) {
            int found = 0;
            for (int i = 1; i < CELLS; i++) {
                if (cells[i] > cells[found]) {
                    found = i;
                }
            }
            return found;
        }

        static int rowsAbove(int[] cells, int level) {
            int rows = 0;
            for (int i = 0; i < CELLS; i++) {
                if (cells[i] > level && (i == 0 || cells[i - 1] <= level)) {
                    rows++;
                }
            }
            return rows;
        }

        static int cellsAbove(int[] cells, int level) {
            int many = 0;
            for (int i = 0; i < CELLS; i++) {
                if (cells[i] > level) {
                    many++;
                }
            }
            return many;
        }

        static int firstHigher(int[] cells, int cell, boolean right) {
            for (int far = 1; far < CELLS; far++) {
                int i = right ? cell + far : cell - far;
                if (i >= 0 && i < CELLS && cells[i] > cells[cell]) {
                    return i;
                }
            }
            return NONE;
        }

        /** The k-th least: fewer than k cells are below it, and k or more aren't above it. */
        static int leastButOthers(int[] cells, int k) {
            for (int i = 0; i < CELLS; i++) {
                int below = CELLS - cellsAbove(cells, cells[i] - 1);
                int upTo = CELLS - cellsAbove(cells, cells[i]);
                if (below < k && k <= upTo) {
                    return cells[i];
                }
            }
            return NONE;
        }

        /** What must pass between two cells is what those to the left have too much, or too little. */
        static int way(int[] from, int[] to) {
            int way = 0;
            int over = 0;
            for (int i = 0; i < CELLS; i++) {
                over += from[i] - to[i];
                way += Math.abs(over);
            }
            return way;
        }

        int wayToLevel(int[] cells) {
            int all = sum(cells, 0, CELLS);
            for (int i = 0; i < CELLS; i++) {
                row[i] = all / CELLS + (i < all % CELLS ? 1 : 0);
            }
            return way(cells, row);
        }

        /** The most of one part (i NONE), or where the i-th begins. */
        int parts(int[] cells, int hands, int i) {
            fillParts(cells, hands);
            int most = table[hands * ENDS];
            if (i == NONE) {
                return most;
            }
            int start = 0;
            for (int part = 0; part < i; part++) {
                start = nextPart(cells, start, hands - part - 1, most);
            }
            return start;
        }

        /** At parts * ENDS + from: the least that the most of one can be, from that cell on in so many parts. */
        private void fillParts(int[] cells, int hands) {
            for (int from = 0; from < CELLS; from++) {
                table[ENDS + from] = sum(cells, from, CELLS);
            }
            for (int parts = 2; parts <= hands; parts++) {
                for (int from = 0; from + parts <= CELLS; from++) {
                    int least = table[ENDS]; // what all cells have: no part has more
                    int first = 0;
                    for (int next = from + 1; next + parts - 1 <= CELLS; next++) {
                        first += cells[next - 1];
                        least = Math.min(least, Math.max(first, table[(parts - 1) * ENDS + next]));
                    }
                    table[parts * ENDS + from] = least;
                }
            }
        }

        private int nextPart(int[] cells, int start, int left, int most) {
            int first = 0;
            for (int next = start + 1; next + left <= CELLS; next++) {
                first += cells[next - 1];
                if (first <= most && table[left * ENDS + next] <= most) {
                    return next;
                }
            }
            return start;
        }

        /** How much more the one who begins has; row has it for the rows of one length, by their first cell. */
        int lead(int[] cells, int a, int b) {
            for (int i = a; i <= b; i++) {
                row[i] = cells[i];
            }
            for (int more = 1; more <= b - a; more++) {
                for (int i = a; i + more <= b; i++) {
                    row[i] = Math.max(cells[i] - row[i + 1], cells[i + more] - row[i]);
                }
            }
            return row[a];
        }

        int firstTaken(int[] cells, int a, int b) {
            if (a == b) {
                return a;
            }
            int left = cells[a] - lead(cells, a + 1, b);
            int right = cells[b] - lead(cells, a, b - 1);
            return left >= right ? a : b;
        }

        /** The lowest torn cell is covered by a row from it on: one that begins ahead of it covers no more. */
        int covers(int torn, int long1, int long2, boolean cost) {
            int price1 = cost ? long1 + 2 : 1;
            int price2 = cost ? long2 + 2 : 1;
            row[CELLS] = 0;
            for (int i = CELLS - 1; i >= 0; i--) {
                if ((torn >> i & 1) == 0) {
                    row[i] = row[i + 1];
                } else {
                    int by1 = price1 + row[Math.min(CELLS, i + long1)];
                    int by2 = price2 + row[Math.min(CELLS, i + long2)];
                    row[i] = Math.min(by1, by2);
                }
            }
            return row[0];
        }

        /** The greatest number that divides both; 1 at least, so that it may divide. */
        static int commonPart(int a, int b) {
            for (int part = Math.max(a, b); part > 1; part--) {
                if (a % part == 0 && b % part == 0) {
                    return part;
                }
            }
            return 1;
        }
    }

    /** The kinds of tokens, and of the steps of a law: words first, as they stand in WORDS, those of clauses ahead. */
    private static final class Kind {
        static final String WORDS = "moves tears hand dough town left right trim patch turn at by then else end if cell torn strength who next not square sheet or and ";
        static final int MOVES = 0;
        static final int TEARS = 1;
        static final int HAND = 2;
        static final int DOUGH = 3;
        static final int TOWN = 4;
        static final int LEFT = 5;
        static final int RIGHT = 6;
        static final int TRIM = 7;
        static final int PATCH = 8;
        static final int TURN = 9;
        static final int AT = 10;
        static final int BY = 11;
        static final int THEN = 12;
        static final int ELSE = 13;
        static final int END = 14;
        static final int IF = 15;
        static final int CELL = 16;
        static final int TORN = 17;
        static final int STRENGTH = 18;
        static final int WHO = 19;
        static final int NEXT = 20;
        static final int NOT = 21;
        static final int SQUARE = 22;
        static final int SHEET = 23;
        static final int OR = 24;
        static final int AND = 25;
        static final int AT_MOST = 26;
        static final int AT_LEAST = 27;
        static final int LESS = 28;
        static final int MORE = 29;
        static final int LIKE = 30;
        static final int UNLIKE = 31;
        static final int PLUS = 32;
        static final int MINUS = 33;
        static final int TIMES = 34;
        static final int SPLIT = 35;
        static final int OPEN = 36;
        static final int CLOSE = 37;
        static final int STOP = 38;
        static final int NUMBER = 39;
        static final int TAPE_END = 40;
        static final int NO_TOKEN = 41;
        // steps of a law that no token alone stands for
        static final int NEGATE = 42;
        static final int UNLESS = 43;
        static final int LEAP = 44;
        /** A step of a law is what goes with it times this, and its kind. */
        static final int BASE = 64;
    }

    /** The bytes that were fed, and the tokens in them. */
    private static final class Tape {
        final int[] bytes = new int[TAPE];
        int length;
        final int[] kinds = new int[TAPE + 1];
        final int[] places = new int[TAPE + 1];
        final int[] numbers = new int[TAPE + 1];
        int tokens;

        boolean hasRoomFor(int many) {
            return length + many <= TAPE;
        }

        void takeFour(int four) {
            for (int shift = 24; shift >= 0 && length < TAPE; shift -= 8) {
                bytes[length] = four >>> shift & 255;
                length++;
            }
        }

        /** The tokens in turn, the last of them being the end, which stands at the length. */
        void findTokens() {
            tokens = 0;
            int at = 0;
            while (at < length) {
                if (bytes[at] == 32 || bytes[at] == 10) {
                    at++;
                } else {
                    at = Math.max(at + 1, takeToken(at));
                }
            }
            add(Kind.TAPE_END, length, 0);
        }

        private void add(int kind, int place, int number) {
            if (tokens < kinds.length) {
                kinds[tokens] = kind;
                places[tokens] = place;
                numbers[tokens] = number;
                tokens++;
            }
        }

        /** Where the token ends that begins there. */
        private int takeToken(int from) {
            if (isLetter(bytes[from])) {
                return takeWord(from);
            }
            if (isDigit(bytes[from])) {
                return takeNumber(from);
            }
            boolean equal = from + 1 < length && bytes[from + 1] == '=';
            if (equal && (bytes[from] == '<' || bytes[from] == '>')) {
                add(bytes[from] == '<' ? Kind.AT_MOST : Kind.AT_LEAST, from, 0);
                return from + 2;
            }
            add(signOf(bytes[from]), from, 0);
            return from + 1;
        }

        private static boolean isLetter(int sign) {
            return sign >= 'a' && sign <= 'z' || sign >= 'A' && sign <= 'Z';
        }

        private static boolean isDigit(int sign) {
            return sign >= '0' && sign <= '9';
        }

        private int takeWord(int from) {
            int to = from;
            while (to < length && isLetter(bytes[to])) {
                to++;
            }
            add(wordOf(from, to), from, 0);
            return to;
        }

        private int wordOf(int from, int to) {
            int word = 0;
            int next = from;
            for (int i = 0; i < Kind.WORDS.length(); i++) {
                char sign = Kind.WORDS.charAt(i);
                if (sign != ' ') {
                    next = next >= 0 && next < to && bytes[next] == sign ? next + 1 : NONE;
                } else if (next == to) {
                    return word;
                } else {
                    word++;
                    next = from;
                }
            }
            return Kind.NO_TOKEN;
        }

        /** One above the most stands for all that are, however many digits they have. */
        private int takeNumber(int from) {
            int to = from;
            int number = 0;
            while (to < length && isDigit(bytes[to])) {
                number = Math.min(MOST_NUMBER + 1, number * 10 + bytes[to] - '0');
                to++;
            }
            add(Kind.NUMBER, from, number);
            return to;
        }

        private static int signOf(int sign) {
            switch (sign) {
                case '<': return Kind.LESS;
                case '>': return Kind.MORE;
                case '=': return Kind.LIKE;
                case '#': return Kind.UNLIKE;
                case '+': return Kind.PLUS;
                case '-': return Kind.MINUS;
                case '*': return Kind.TIMES;
                case '/': return Kind.SPLIT;
                case '(': return Kind.OPEN;
                case ')': return Kind.CLOSE;
                case ';': return Kind.STOP;
                default: return Kind.NO_TOKEN;
            }
        }
    }

    /** How a text is read from the tokens, one by one, to the first fault. */
    private static final class Reader {
        static final int CLAUSES = 24;
        static final int MOST_OPEN = 8;

        private final Tape tape;
        boolean hasRead;
        int fault;
        int faultAt;
        private int at;
        private int token;
        private final int[] clauses = new int[3 * CLAUSES];
        private int clauseCount;
        /** Each token adds one step of a law at most. */
        private final int[] law = new int[TAPE];
        private int lawLength;
        private int[] moves = Text.NO_LAW;
        private int[] tears = Text.NO_LAW;

        Reader(Tape tape) {
            this.tape = tape;
        }

        /** The text on the tape, which is empty then; null: it has a fault. */
        Text readTape() {
            hasRead = true;
            fault = 0;
            faultAt = NONE;
            clauseCount = 0;
            moves = Text.NO_LAW;
            tears = Text.NO_LAW;
            tape.findTokens();
            at = 0;
            token = tape.kinds[at];
            boolean fine = true;
            for (int i = 0; i <= CLAUSES && fine && token != Kind.TAPE_END; i++) {
                fine = clause();
            }
            tape.length = 0;
            return fine ? new Text(Arrays.copyOf(clauses, 3 * clauseCount), moves, tears) : null;
        }

        private boolean faulty(int what) {
            fault = what;
            faultAt = tape.places[at];
            return false;
        }

        private void advance() {
            if (at + 1 < tape.tokens) {
                at++;
            }
            token = tape.kinds[at];
        }

        private boolean takes(int kind) {
            if (token != kind) {
                return faulty(1);
            }
            advance();
            return true;
        }

        // ---- clauses

        private boolean clause() {
            int kind = token;
            if (kind > Kind.TURN) {
                return faulty(1);
            }
            if (kind == Kind.MOVES && moves.length > 0 || kind == Kind.TEARS && tears.length > 0) {
                return faulty(4);
            }
            if (clauseCount >= CLAUSES) {
                return faulty(6);
            }
            clauses[3 * clauseCount] = kind;
            clauses[3 * clauseCount + 1] = 0;
            clauses[3 * clauseCount + 2] = 0;
            advance();
            boolean fine = kind <= Kind.TEARS ? readLaw(kind) : readDeed(kind);
            clauseCount++;
            return fine && takes(Kind.STOP);
        }

        private boolean readDeed(int kind) {
            switch (kind) {
                case Kind.HAND: return readNumber(1, 1, MOST_STRENGTH);
                case Kind.DOUGH: return readNumber(1, 0, MOST_TOLD) && takes(Kind.AT) && readNumber(2, 0, CELLS - 1);
                case Kind.TOWN: return readNumber(1, 0, CELLS - 1);
                case Kind.LEFT:
                case Kind.RIGHT: return readNumber(1, 0, CELLS - 1) && takes(Kind.BY) && readNumber(2, 0, HANDS - 1);
                case Kind.PATCH: return readNumber(1, 1, MOST_PATCH) && takes(Kind.AT) && readNumber(2, 0, CELLS - 1);
                case Kind.TURN: return readNumber(1, 1, MOST_ROLL);
                default: return true; // trim has none
            }
        }

        private boolean readNumber(int place, int least, int most) {
            if (token != Kind.NUMBER) {
                return faulty(1);
            }
            if (tape.numbers[at] < least || tape.numbers[at] > most) {
                return faulty(2);
            }
            clauses[3 * clauseCount + place] = tape.numbers[at];
            advance();
            return true;
        }

        private boolean readLaw(int kind) {
            lawLength = 0;
            if (!sum(kind, 0)) {
                return false;
            }
            int[] read = Arrays.copyOf(law, lawLength);
            if (kind == Kind.MOVES) {
                moves = read;
            } else {
                tears = read;
            }
            return true;
        }

        // ---- laws: open is how many are open around what is read

        private void add(int kind, int given) {
            if (lawLength < law.length) {
                law[lawLength] = given * Kind.BASE + kind;
                lawLength++;
            }
        }

        /** The leap at that place goes to what is added next. */
        private void land(int place, int kind) {
            if (place < law.length) {
                law[place] = lawLength * Kind.BASE + kind;
            }
        }

        private boolean sum(int kind, int open) {
            boolean fine = product(kind, open);
            for (int i = 0; i < TAPE && fine && (token == Kind.PLUS || token == Kind.MINUS); i++) {
                int sign = token;
                advance();
                fine = product(kind, open);
                add(sign, 0);
            }
            return fine;
        }

        private boolean product(int kind, int open) {
            boolean fine = one(kind, open);
            for (int i = 0; i < TAPE && fine && (token == Kind.TIMES || token == Kind.SPLIT); i++) {
                int sign = token;
                advance();
                fine = one(kind, open);
                add(sign, 0);
            }
            return fine;
        }

        private boolean one(int kind, int open) {
            int first = token;
            switch (first) {
                case Kind.NUMBER:
                    return tape.numbers[at] > MOST_NUMBER ? faulty(2) : adds(first, tape.numbers[at]);
                case Kind.TURN:
                case Kind.CELL:
                case Kind.DOUGH:
                case Kind.TORN:
                    return adds(first, 0);
                case Kind.STRENGTH:
                case Kind.WHO:
                case Kind.NEXT:
                case Kind.RIGHT:
                    return kind == Kind.MOVES ? adds(first, 0) : faulty(5);
                case Kind.OPEN:
                    return opens(open) && sum(kind, open + 1) && takes(Kind.CLOSE);
                case Kind.IF:
                    return opens(open) && choice(kind, open + 1);
                case Kind.MINUS:
                case Kind.SQUARE:
                case Kind.SHEET:
                    if (!opens(open) || !one(kind, open + 1)) {
                        return false;
                    }
                    add(first == Kind.MINUS ? Kind.NEGATE : first, 0);
                    return true;
                default:
                    return faulty(1);
            }
        }

        private boolean adds(int kind, int given) {
            add(kind, given);
            advance();
            return true;
        }

        private boolean opens(int open) {
            if (open >= MOST_OPEN) {
                return faulty(3);
            }
            advance();
            return true;
        }

        private boolean choice(int kind, int open) {
            if (!either(kind, open) || !takes(Kind.THEN)) {
                return false;
            }
            int unless = lawLength;
            add(Kind.UNLESS, 0);
            if (!sum(kind, open) || !takes(Kind.ELSE)) {
                return false;
            }
            int leap = lawLength;
            add(Kind.LEAP, 0);
            land(unless, Kind.UNLESS);
            if (!sum(kind, open) || !takes(Kind.END)) {
                return false;
            }
            land(leap, Kind.LEAP);
            return true;
        }

        private boolean either(int kind, int open) {
            boolean fine = both(kind, open);
            for (int i = 0; i < TAPE && fine && token == Kind.OR; i++) {
                advance();
                fine = both(kind, open);
                add(Kind.OR, 0);
            }
            return fine;
        }

        private boolean both(int kind, int open) {
            boolean fine = ask(kind, open);
            for (int i = 0; i < TAPE && fine && token == Kind.AND; i++) {
                advance();
                fine = ask(kind, open);
                add(Kind.AND, 0);
            }
            return fine;
        }

        private boolean ask(int kind, int open) {
            if (token == Kind.NOT) {
                if (!opens(open) || !ask(kind, open + 1)) {
                    return false;
                }
                add(Kind.NOT, 0);
                return true;
            }
            if (!sum(kind, open)) {
                return false;
            }
            int sign = token;
            if (sign < Kind.AT_MOST || sign > Kind.UNLIKE) {
                return faulty(1);
            }
            advance();
            if (!sum(kind, open)) {
                return false;
            }
            add(sign, 0);
            return true;
        }
    }
}
