import java.util.ArrayDeque;
import java.util.ArrayList;
import java.util.Arrays;
import java.util.Comparator;
import java.util.Deque;
import java.util.HashMap;
import java.util.List;
import java.util.Map;
import java.util.function.ToLongFunction;

/** The document once more, as plain and slow as can be: copies for every step, trees for laws, all ways tried. */
final class Model {
    static final class Land {
        int[] dough = new int[12];
        boolean[] torn = new boolean[12];
        List<Integer> towns = new ArrayList<>();
        List<int[]> book = new ArrayList<>();
        int edge;
        int ball;
        int turn;
        int x = 281;

        Land() {
            Arrays.fill(dough, 20);
        }

        Land copy() {
            Land c = new Land();
            c.dough = dough.clone();
            c.torn = torn.clone();
            c.towns = new ArrayList<>(towns);
            c.book = new ArrayList<>(book);
            c.edge = edge;
            c.ball = ball;
            c.turn = turn;
            c.x = x;
            return c;
        }

        int draw(int n) {
            int got = x % n;
            x = (x * 541 + 419) % 30713;
            return got;
        }
    }

    /** The land ahead of a step, and what was told since. */
    static final class Step {
        Land ahead;
        Map<Integer, Integer> dough = new HashMap<>();
        Map<Integer, Integer> towns = new HashMap<>();

        Step copy() {
            Step c = new Step();
            c.ahead = ahead.copy();
            c.dough.putAll(dough);
            c.towns.putAll(towns);
            return c;
        }
    }

    static final class Ask {
        Land land;
        int cell;
        int hand;
        int strength;
        boolean right;
    }

    static final class Fault extends RuntimeException {
        private static final long serialVersionUID = 1;
        final int kind;
        final int place;

        Fault(int kind, int place) {
            this.kind = kind;
            this.place = place;
        }
    }

    record Clause(String kind, int first, int second) {
    }

    static final class Script {
        List<Clause> clauses = new ArrayList<>();
        ToLongFunction<Ask> moves;
        ToLongFunction<Ask> tears;
    }

    static final class All {
        Land land = new Land();
        Deque<Step> steps = new ArrayDeque<>();
        List<Integer> hands = new ArrayList<>();
        List<Script> texts = new ArrayList<>();
        int law = -1;
        List<int[]> said = new ArrayList<>();

        All copy() {
            All c = new All();
            c.land = land.copy();
            for (Step s : steps) {
                c.steps.addLast(s.copy());
            }
            c.hands.addAll(hands);
            c.texts.addAll(texts);
            c.law = law;
            c.said.addAll(said);
            return c;
        }
    }

    All a = new All();
    All image = a.copy();
    List<Integer> tape = new ArrayList<>();
    int fault = -1;
    int faultAt = -1;

    // ---------------------------------------------------------------- telling

    int hand(int strength) {
        if (strength < 1 || strength > 9 || a.hands.size() == 4) {
            return -1;
        }
        a.hands.add(strength);
        return a.hands.size() - 1;
    }

    boolean dough(int cell, int dough) {
        if (cell < 0 || cell > 11 || dough < 0 || dough > 999) {
            return false;
        }
        a.land.dough[cell] = dough;
        for (Step s : a.steps) {
            s.dough.put(cell, dough);
        }
        return true;
    }

    int town(int cell) {
        if (cell < 0 || cell > 11 || a.land.towns.size() == 6) {
            return -1;
        }
        a.land.towns.add(cell);
        int n = a.land.towns.size() - 1;
        for (Step s : a.steps) {
            s.towns.put(n, cell);
        }
        return n;
    }

    int feed(int... five) {
        if (tape.size() + 20 > 300) {
            return -1;
        }
        for (int v : five) {
            for (int k = 3; k >= 0; k--) {
                tape.add((v >> (8 * k)) & 0xff);
            }
        }
        return tape.size();
    }

    int end(int n) {
        if (n < 0 || n > tape.size()) {
            return -1;
        }
        tape = new ArrayList<>(tape.subList(0, n));
        return n;
    }

    int text() {
        if (a.texts.size() == 4) {
            return -1;
        }
        try {
            Script read = new Parser(tape).script();
            fault = 0;
            faultAt = -1;
            a.texts.add(read);
            return a.texts.size() - 1;
        } catch (Fault f) {
            fault = f.kind;
            faultAt = f.place;
            return -1;
        } finally {
            tape.clear();
        }
    }

    int fault(int what) {
        return what == 0 ? fault : what == 1 ? faultAt : -1;
    }

    boolean by(int text) {
        if (text < -1 || text >= a.texts.size()) {
            return false;
        }
        a.law = text;
        return true;
    }

    // ---------------------------------------------------------------- laws

    static final class Parser {
        final List<Integer> tape;
        int at;
        int open;
        boolean inMoves;

        Parser(List<Integer> tape) {
            this.tape = tape;
        }

        boolean letter(int i) {
            return i < tape.size() && Character.toString(tape.get(i)).matches("[a-zA-Z]");
        }

        boolean digit(int i) {
            return i < tape.size() && Character.toString(tape.get(i)).matches("[0-9]");
        }

        void blanks() {
            while (at < tape.size() && (tape.get(at) == 32 || tape.get(at) == 10)) {
                at++;
            }
        }

        /** The token that stands next, "" at the end, one sign if it is none. */
        String peek() {
            blanks();
            if (at == tape.size()) {
                return "";
            }
            StringBuilder b = new StringBuilder();
            if (letter(at)) {
                for (int i = at; letter(i); i++) {
                    b.append((char) (int) tape.get(i));
                }
            } else if (digit(at)) {
                for (int i = at; digit(i); i++) {
                    b.append((char) (int) tape.get(i));
                }
            } else {
                b.append((char) (int) tape.get(at));
                boolean two = at + 1 < tape.size() && tape.get(at + 1) == '=';
                if (two && (tape.get(at) == '<' || tape.get(at) == '>')) {
                    b.append('=');
                }
            }
            return b.toString();
        }

        Fault fault(int kind) {
            blanks();
            return new Fault(kind, at);
        }

        void eat(String want) {
            if (!peek().equals(want)) {
                throw fault(1);
            }
            at += want.length();
        }

        boolean eats(String want) {
            boolean there = peek().equals(want);
            if (there) {
                at += want.length();
            }
            return there;
        }

        int number(int least, int most) {
            String t = peek();
            if (t.isEmpty() || !Character.isDigit(t.charAt(0))) {
                throw fault(1);
            }
            java.math.BigInteger v = new java.math.BigInteger(t);
            if (v.compareTo(java.math.BigInteger.valueOf(most)) > 0 || v.intValue() < least) {
                throw fault(2);
            }
            at += t.length();
            return v.intValue();
        }

        Script script() {
            Script s = new Script();
            List<String> starts = List.of("moves", "tears", "hand", "dough", "town", "left", "right", "trim", "patch",
                    "turn");
            while (!peek().isEmpty()) {
                String kind = peek();
                if (!starts.contains(kind)) {
                    throw fault(1);
                }
                if (kind.equals("moves") && s.moves != null || kind.equals("tears") && s.tears != null) {
                    throw fault(4);
                }
                if (s.clauses.size() == 24) {
                    throw fault(6);
                }
                eat(kind);
                s.clauses.add(clause(kind, s));
                eat(";");
            }
            return s;
        }

        Clause clause(String kind, Script s) {
            int one = 0;
            int two = 0;
            switch (kind) {
                case "moves" -> {
                    inMoves = true;
                    s.moves = sum();
                }
                case "tears" -> {
                    inMoves = false;
                    s.tears = sum();
                }
                case "hand" -> one = number(1, 9);
                case "town" -> one = number(0, 11);
                case "turn" -> one = number(1, 60);
                case "trim" -> {
                }
                case "dough", "patch" -> {
                    one = kind.equals("dough") ? number(0, 999) : number(1, 99);
                    eat("at");
                    two = number(0, 11);
                }
                default -> {
                    one = number(0, 11);
                    eat("by");
                    two = number(0, 3);
                }
            }
            return new Clause(kind, one, two);
        }

        static long cut(long v) {
            return v > 1000000 ? 1000000 : v < -1000000 ? -1000000 : v;
        }

        ToLongFunction<Ask> sum() {
            ToLongFunction<Ask> left = product();
            while (peek().equals("+") || peek().equals("-")) {
                ToLongFunction<Ask> l = left;
                boolean plus = eats("+") || !eats("-");
                ToLongFunction<Ask> r = product();
                left = q -> cut(plus ? l.applyAsLong(q) + r.applyAsLong(q) : l.applyAsLong(q) - r.applyAsLong(q));
            }
            return left;
        }

        ToLongFunction<Ask> product() {
            ToLongFunction<Ask> left = one();
            while (peek().equals("*") || peek().equals("/")) {
                ToLongFunction<Ask> l = left;
                boolean times = eats("*") || !eats("/");
                ToLongFunction<Ask> r = one();
                left = q -> {
                    long x = l.applyAsLong(q);
                    long y = r.applyAsLong(q);
                    return cut(times ? x * y : y == 0 ? 0 : x / y);
                };
            }
            return left;
        }

        void enter(String what) {
            if (open == 8) {
                throw fault(3);
            }
            eat(what);
            open++;
        }

        ToLongFunction<Ask> one() {
            String t = peek();
            if (!t.isEmpty() && Character.isDigit(t.charAt(0))) {
                int n = number(0, 9999);
                return q -> n;
            }
            switch (t) {
                case "strength", "who", "next", "right":
                    if (!inMoves) {
                        throw fault(5);
                    }
                    eat(t);
                    return q -> named(t, q);
                case "turn", "cell", "dough", "torn":
                    eat(t);
                    return q -> named(t, q);
                case "(": {
                    enter("(");
                    ToLongFunction<Ask> in = sum();
                    eat(")");
                    open--;
                    return in;
                }
                case "-", "square", "sheet": {
                    enter(t);
                    ToLongFunction<Ask> in = one();
                    open--;
                    return q -> alone(t, in.applyAsLong(q), q);
                }
                case "if": {
                    enter("if");
                    ToLongFunction<Ask> c = either();
                    eat("then");
                    ToLongFunction<Ask> yes = sum();
                    eat("else");
                    ToLongFunction<Ask> no = sum();
                    eat("end");
                    open--;
                    return q -> c.applyAsLong(q) == 1 ? yes.applyAsLong(q) : no.applyAsLong(q);
                }
                default:
                    throw fault(1);
            }
        }

        static long alone(String t, long v, Ask q) {
            if (t.equals("-")) {
                return -v;
            }
            if (t.equals("square")) {
                return cut(v * v);
            }
            return v >= 0 && v <= 11 ? q.land.dough[(int) v] : 0;
        }

        static long named(String t, Ask q) {
            int beside = q.cell + (q.right ? 1 : -1);
            return switch (t) {
                case "turn" -> q.land.turn;
                case "cell" -> q.cell;
                case "dough" -> q.land.dough[q.cell];
                case "torn" -> q.land.torn[q.cell] ? 1 : 0;
                case "strength" -> q.strength;
                case "who" -> q.hand;
                case "next" -> beside < 0 || beside > 11 ? q.land.edge : q.land.dough[beside];
                default -> q.right ? 1 : 0;
            };
        }

        ToLongFunction<Ask> either() {
            ToLongFunction<Ask> left = both();
            while (eats("or")) {
                ToLongFunction<Ask> l = left;
                ToLongFunction<Ask> r = both();
                left = q -> Math.max(l.applyAsLong(q), r.applyAsLong(q));
            }
            return left;
        }

        ToLongFunction<Ask> both() {
            ToLongFunction<Ask> left = ask();
            while (eats("and")) {
                ToLongFunction<Ask> l = left;
                ToLongFunction<Ask> r = ask();
                left = q -> Math.min(l.applyAsLong(q), r.applyAsLong(q));
            }
            return left;
        }

        ToLongFunction<Ask> ask() {
            if (peek().equals("not")) {
                enter("not");
                ToLongFunction<Ask> in = ask();
                open--;
                return q -> 1 - in.applyAsLong(q);
            }
            ToLongFunction<Ask> l = sum();
            String t = peek();
            if (!List.of("<", "<=", ">", ">=", "=", "#").contains(t)) {
                throw fault(1);
            }
            eat(t);
            ToLongFunction<Ask> r = sum();
            return q -> {
                int c = Long.compare(l.applyAsLong(q), r.applyAsLong(q));
                boolean so = switch (t) {
                    case "<" -> c < 0;
                    case "<=" -> c <= 0;
                    case ">" -> c > 0;
                    case ">=" -> c >= 0;
                    case "=" -> c == 0;
                    default -> c != 0;
                };
                return so ? 1 : 0;
            };
        }
    }

    int amount(Script law, Land land, int hand, int cell, boolean right) {
        if (law == null || law.moves == null) {
            return land.dough[cell] / 2;
        }
        Ask q = new Ask();
        q.land = land;
        q.cell = cell;
        q.hand = hand;
        q.strength = a.hands.get(hand);
        q.right = right;
        long v = law.moves.applyAsLong(q);
        return v < 0 ? 0 : v > land.dough[cell] ? land.dough[cell] : (int) v;
    }

    int tears(Land land, int cell) {
        Script law = law();
        if (law == null || law.tears == null) {
            return 3;
        }
        Ask q = new Ask();
        q.land = land;
        q.cell = cell;
        long v = law.tears.applyAsLong(q);
        return v < 0 ? 0 : v > 99 ? 99 : (int) v;
    }

    Script law() {
        return a.law == -1 ? null : a.texts.get(a.law);
    }

    boolean isHand(int hand) {
        return hand >= 0 && hand < a.hands.size();
    }

    static boolean isCell(int cell) {
        return cell >= 0 && cell <= 11;
    }

    // ---------------------------------------------------------------- doing

    int stroked(Land land, int hand, int cell, boolean right) {
        int had = land.dough[cell];
        int much = amount(law(), land, hand, cell, right);
        int to = cell + (right ? 1 : -1);
        land.dough[cell] -= much;
        if (isCell(to)) {
            land.dough[to] += much;
        } else {
            land.edge += much;
        }
        if (2 * much > had) {
            land.towns.replaceAll(t -> t != cell ? t : isCell(to) ? to : -1);
        }
        if (land.dough[cell] < tears(land, cell)) {
            land.torn[cell] = true;
        }
        land.book.add(new int[] {land.turn, hand, 2 * cell + (right ? 1 : 0), much});
        if (land.book.size() > 30) {
            land.book.remove(0);
        }
        return much;
    }

    void step() {
        Step s = new Step();
        s.ahead = a.land.copy();
        a.steps.addLast(s);
        if (a.steps.size() > 30) {
            a.steps.removeFirst();
        }
    }

    int stroke(int hand, int cell, boolean right) {
        if (!isHand(hand) || !isCell(cell) || a.land.dough[cell] == 0) {
            return -1;
        }
        step();
        return stroked(a.land, hand, cell, right);
    }

    int trim() {
        if (a.land.edge == 0) {
            return -1;
        }
        step();
        int much = a.land.edge;
        a.land.ball += much;
        a.land.edge = 0;
        return much;
    }

    static boolean patched(Land land, int cell, int n) {
        if (!land.torn[cell] || land.ball < n) {
            return false;
        }
        land.ball -= n;
        land.dough[cell] += n;
        land.torn[cell] = false;
        return true;
    }

    boolean patch(int cell, int n) {
        if (!isCell(cell) || n < 1 || n > 99 || !a.land.torn[cell] || a.land.ball < n) {
            return false;
        }
        step();
        return patched(a.land, cell, n);
    }

    boolean turn(Land land) {
        if (land.turn == 9999) {
            return false;
        }
        if (!a.hands.isEmpty()) {
            int cell = land.draw(12);
            boolean right = land.draw(2) == 1;
            if (land.dough[cell] > 0) {
                stroked(land, land.turn % a.hands.size(), cell, right);
            }
        }
        land.turn++;
        return true;
    }

    int roll(int n) {
        if (n < 1 || n > 60 || a.land.turn + n > 9999) {
            return -1;
        }
        int tore = 0;
        for (int i = 0; i < n; i++) {
            int before = bits(a.land.torn);
            step();
            turn(a.land);
            tore += bits(a.land.torn) == before ? 0 : 1;
        }
        return tore;
    }

    static int bits(boolean[] set) {
        int b = 0;
        for (int i = 0; i < set.length; i++) {
            b += set[i] ? 1 << i : 0;
        }
        return b;
    }

    int played(int text) {
        if (text < 0 || text >= a.texts.size()) {
            return -2;
        }
        int n = 0;
        for (Clause c : a.texts.get(text).clauses) {
            boolean done = switch (c.kind) {
                case "hand" -> hand(c.first) >= 0;
                case "dough" -> dough(c.second, c.first);
                case "town" -> town(c.first) >= 0;
                case "left" -> stroke(c.second, c.first, false) >= 0;
                case "right" -> stroke(c.second, c.first, true) >= 0;
                case "trim" -> trim() >= 0;
                case "patch" -> patch(c.second, c.first);
                case "turn" -> turns(c.first);
                default -> true;
            };
            if (!done) {
                return n;
            }
            n++;
        }
        return -1;
    }

    boolean turns(int n) {
        for (int i = 0; i < n; i++) {
            if (a.land.turn == 9999) {
                return false;
            }
            step();
            turn(a.land);
        }
        return true;
    }

    int years(int seed, int n) {
        if (seed < 0 || seed > 9999 || n < 1 || n > 40) {
            return -1;
        }
        step();
        Land l = a.land;
        l.x = 2 * seed + 281;
        for (int i = 0; i < n; i++) {
            int x = l.draw(1 << 20);
            int cell = x / 6 % 12;
            int m = x % 6;
            if (m <= 1 && !a.hands.isEmpty() && l.dough[cell] > 0) {
                stroked(l, x % a.hands.size(), cell, x % 4 > 1);
            } else if (m == 2) {
                l.ball += l.edge;
                l.edge = 0;
            } else if (m == 3) {
                patched(l, cell, 1 + x % 9);
            } else if (m >= 4) {
                turn(l);
            }
        }
        return l.turn;
    }

    int undo() {
        if (a.steps.isEmpty()) {
            return -1;
        }
        Step s = a.steps.removeLast();
        a.land = s.ahead;
        s.dough.forEach((c, d) -> a.land.dough[c] = d);
        s.towns.forEach((t, c) -> {
            while (a.land.towns.size() <= t) {
                a.land.towns.add(0);
            }
            a.land.towns.set(t, c);
        });
        return a.steps.size();
    }

    // ---------------------------------------------------------------- asking

    int of(int cell, int what) {
        if (!isCell(cell) || what < 0 || what > 3) {
            return -1;
        }
        int towns = 0;
        for (int t = 0; t < a.land.towns.size(); t++) {
            towns += a.land.towns.get(t) == cell ? 1 << t : 0;
        }
        return what == 0 ? a.land.dough[cell] : what == 1 ? (a.land.torn[cell] ? 1 : 0)
                : what == 2 ? towns : tears(a.land, cell);
    }

    int ofTown(int town) {
        return town < 0 || town >= a.land.towns.size() ? -2 : a.land.towns.get(town);
    }

    int ofHand(int hand) {
        return isHand(hand) ? a.hands.get(hand) : -1;
    }

    int moves(int hand, int cell, boolean right) {
        return isHand(hand) && isCell(cell) ? amount(law(), a.land, hand, cell, right) : -1;
    }

    int is(int what) {
        return switch (what) {
            case 0 -> a.land.turn;
            case 1 -> a.land.x;
            case 2 -> a.land.ball;
            case 3 -> a.land.edge;
            case 4 -> bits(a.land.torn);
            case 5 -> Arrays.stream(a.land.dough).sum();
            default -> -2;
        };
    }

    int book(int i, int what) {
        if (i == -1) {
            return a.land.book.size();
        }
        return i < 0 || i >= a.land.book.size() || what < 0 || what > 3 ? -2 : a.land.book.get(i)[what];
    }

    int foretold(int n, int what, int which) {
        if (n < 1 || n > 60 || what < 0 || what > 2 || what == 0 && !isCell(which)
                || what == 1 && (which < 0 || which >= a.land.towns.size())) {
            return -2;
        }
        Land l = a.land.copy();
        for (int i = 0; i < n; i++) {
            turn(l);
        }
        return what == 0 ? l.dough[which] : what == 1 ? l.towns.get(which) : bits(l.torn);
    }

    int lake() {
        int[] h = a.land.dough;
        int[] w = new int[14];
        Arrays.fill(w, 1, 13, Integer.MAX_VALUE / 2);
        for (int round = 0; round < 20; round++) {
            for (int i = 1; i <= 12; i++) {
                w[i] = Math.max(h[i - 1], Math.min(w[i], Math.min(w[i - 1], w[i + 1])));
            }
        }
        return Arrays.stream(w).sum() - Arrays.stream(h).sum();
    }

    int glaze(int what) {
        List<int[]> rows = new ArrayList<>();
        for (int many = 1; many <= 12; many++) {
            for (int first = 0; first + many <= 12; first++) {
                int least = Arrays.stream(a.land.dough, first, first + many).min().getAsInt();
                rows.add(new int[] {least * many, first, many});
            }
        }
        Comparator<int[]> order = Comparator.comparingInt(r -> -r[0]);
        rows.sort(order.thenComparingInt(r -> r[1]).thenComparingInt(r -> r[2]));
        return what < 0 || what > 2 ? -1 : rows.get(0)[what];
    }

    int rise(int i) {
        List<Integer> best = new ArrayList<>();
        for (int set = 1; set < 4096; set++) {
            List<Integer> cells = new ArrayList<>();
            boolean rises = true;
            for (int c = 0; c < 12 && rises; c++) {
                if ((set >> c & 1) == 1) {
                    rises = cells.isEmpty() || a.land.dough[c] > a.land.dough[cells.get(cells.size() - 1)];
                    cells.add(c);
                }
            }
            if (rises && (cells.size() > best.size() || cells.size() == best.size() && lower(cells, best))) {
                best = cells;
            }
        }
        return i == -1 ? best.size() : i < 0 || i >= best.size() ? -2 : best.get(i);
    }

    static boolean lower(List<Integer> one, List<Integer> two) {
        for (int i = 0; i < one.size(); i++) {
            if (!one.get(i).equals(two.get(i))) {
                return one.get(i) < two.get(i);
            }
        }
        return false;
    }

    int folds() {
        int n = 0;
        for (int r = 1; r < 12; r++) {
            int right = a.land.dough[r];
            n += (int) Arrays.stream(a.land.dough, 0, r).filter(d -> d > right).count();
        }
        return n;
    }

    int peaks() {
        int b = 0;
        for (int c = 0; c < 12; c++) {
            int left = c == 0 ? -1 : a.land.dough[c - 1];
            int right = c == 11 ? -1 : a.land.dough[c + 1];
            b += a.land.dough[c] > Math.max(left, right) ? 1 << c : 0;
        }
        return b;
    }

    int richest(int n) {
        if (n < 1 || n > 12) {
            return -1;
        }
        int best = 12 - n;
        for (int c = 12 - n; c >= 0; c--) {
            if (Arrays.stream(a.land.dough, c, c + n).sum() >= Arrays.stream(a.land.dough, best, best + n).sum()) {
                best = c;
            }
        }
        return best;
    }

    int islands(int level) {
        if (level < 0 || level > 9999) {
            return -1;
        }
        StringBuilder b = new StringBuilder(" ");
        for (int d : a.land.dough) {
            b.append(d > level ? 'x' : ' ');
        }
        String row = b.toString().trim();
        return row.isEmpty() ? 0 : row.split(" +").length;
    }

    int sees(int cell, boolean right) {
        if (isCell(cell)) {
            for (int c = cell; isCell(c); c += right ? 1 : -1) {
                if (a.land.dough[c] > a.land.dough[cell]) {
                    return c;
                }
            }
        }
        return -1;
    }

    int middle(int k) {
        return k < 1 || k > 12 ? -1 : Arrays.stream(a.land.dough).sorted().toArray()[k - 1];
    }

    /** Lump by lump from the leftmost that is too much to the leftmost that is too little. */
    static int haul(int[] from, int[] to) {
        int[] f = from.clone();
        int[] t = to.clone();
        int way = 0;
        int i = 0;
        int j = 0;
        while (i < 12 && j < 12) {
            int n = Math.min(f[i], t[j]);
            way += n * Math.abs(i - j);
            f[i] -= n;
            t[j] -= n;
            if (f[i] == 0) {
                i++;
            } else {
                j++;
            }
        }
        return way;
    }

    int carried() {
        int[] from = image.land.dough;
        return Arrays.stream(from).sum() != is(5) ? -1 : haul(from, a.land.dough);
    }

    int level() {
        int[] to = new int[12];
        for (int left = is(5), c = 0; left > 0; left--, c = (c + 1) % 12) {
            to[c]++;
        }
        return haul(a.land.dough, to);
    }

    int shared(int hands, int i) {
        if (hands < 1 || hands > 6 || i < -1 || i >= hands) {
            return -2;
        }
        int[] best = null;
        int least = Integer.MAX_VALUE;
        for (int set = 0; set < 2048; set++) {
            if (Integer.bitCount(set) == hands - 1) {
                int[] starts = new int[hands + 1];
                int n = 1;
                for (int c = 1; c < 12; c++) {
                    if ((set >> (c - 1) & 1) == 1) {
                        starts[n++] = c;
                    }
                }
                starts[hands] = 12;
                int most = 0;
                for (int p = 0; p < hands; p++) {
                    most = Math.max(most, Arrays.stream(a.land.dough, starts[p], starts[p + 1]).sum());
                }
                if (most < least || most == least && Arrays.compare(starts, best) < 0) {
                    least = most;
                    best = starts;
                }
            }
        }
        return i == -1 ? least : best[i];
    }

    int game(int l, int r) {
        if (l > r) {
            return 0;
        }
        return Math.max(a.land.dough[l] - game(l + 1, r), a.land.dough[r] - game(l, r - 1));
    }

    int ends(int l, int r) {
        return l < 0 || r > 11 || l > r ? -9999 : game(l, r);
    }

    int endsFirst(int l, int r) {
        return l < 0 || r > 11 || l > r ? -1 : a.land.dough[l] - game(l + 1, r) == game(l, r) ? l : r;
    }

    int patches(int long1, int long2, boolean cost) {
        if (long1 < 1 || long1 > 6 || long2 < 1 || long2 > 6) {
            return -1;
        }
        int[] least = new int[4096];
        for (int set = 1; set < 4096; set++) {
            least[set] = 9999;
            for (int start = -5; start < 12; start++) {
                for (int l : new int[] {long1, long2}) {
                    int row = start < 0 ? ((1 << l) - 1) >> -start : ((1 << l) - 1) << start;
                    if ((set & row) != 0) {
                        least[set] = Math.min(least[set], least[set & ~row] + (cost ? l + 2 : 1));
                    }
                }
            }
        }
        return least[bits(a.land.torn)];
    }

    /** The land behind a stroke, or null if it can't be. */
    Land behind(Land land, int hand, int stroke) {
        if (land.dough[stroke / 2] == 0) {
            return null;
        }
        Land l = land.copy();
        stroked(l, hand, stroke / 2, stroke % 2 == 1);
        return l;
    }

    List<Integer> path(Land land, int hand, int most, int many, int torn) {
        if (many == 0) {
            boolean fine = bits(land.torn) == torn && Arrays.stream(land.dough).max().getAsInt() <= most;
            return fine ? new ArrayList<>() : null;
        }
        for (int s = 0; s < 24; s++) {
            Land l = behind(land, hand, s);
            List<Integer> rest = l == null ? null : path(l, hand, most, many - 1, torn);
            if (rest != null) {
                rest.add(0, s);
                return rest;
            }
        }
        return null;
    }

    int plan(int hand, int most, int i) {
        if (isHand(hand) && most >= 0 && most <= 9999) {
            Land bare = a.land.copy();
            bare.book.clear();
            for (int many = 0; many <= 3; many++) {
                List<Integer> p = path(bare, hand, most, many, bits(a.land.torn));
                if (p != null) {
                    return i == -1 ? many : i < 0 || i >= many ? -2 : p.get(i);
                }
            }
        }
        return -2;
    }

    int best(int hand) {
        int best = -1;
        int least = Integer.MAX_VALUE;
        for (int s = 0; s < 24 && isHand(hand); s++) {
            Land l = behind(a.land, hand, s);
            if (l != null && Arrays.stream(l.dough).max().getAsInt() < least) {
                least = Arrays.stream(l.dough).max().getAsInt();
                best = s;
            }
        }
        return best;
    }

    boolean asNow(Land l) {
        return l != null && Arrays.equals(l.dough, a.land.dough) && Arrays.equals(l.torn, a.land.torn)
                && l.edge == a.land.edge;
    }

    int which(int hand, boolean first) {
        if (!isHand(hand)) {
            return -2;
        }
        Land start = image.land.copy();
        start.turn = a.land.turn;
        start.book.clear();
        List<Integer> ways = new ArrayList<>();
        for (int s = 0; s < 24; s++) {
            if (asNow(behind(start, hand, s))) {
                ways.add(s);
            }
        }
        for (int s = 0; s < 24; s++) {
            Land l = behind(start, hand, s);
            for (int t = 0; t < 24 && l != null; t++) {
                if (asNow(behind(l, hand, t))) {
                    ways.add(s);
                }
            }
        }
        return !first ? ways.size() : ways.isEmpty() ? -1 : ways.get(0);
    }

    int likely(int hand, boolean low) {
        if (!isHand(hand)) {
            return -1;
        }
        int up = 0;
        for (int s = 0; s < 24; s++) {
            Land l = behind(a.land, hand, s);
            up += l != null && bits(l.torn) != bits(a.land.torn) ? 1 : 0;
        }
        int g = java.math.BigInteger.valueOf(up).gcd(java.math.BigInteger.valueOf(24)).intValue();
        return (low ? 24 : up) / g;
    }

    int thin() {
        int c = 11;
        for (int i = 11; i >= 0; i--) {
            c = a.land.dough[i] <= a.land.dough[c] ? i : c;
        }
        return c;
    }

    int thick() {
        int c = 11;
        for (int i = 11; i >= 0; i--) {
            c = a.land.dough[i] >= a.land.dough[c] ? i : c;
        }
        return c;
    }

    int apart() {
        int[] s = a.land.towns.stream().mapToInt(t -> t).filter(t -> t >= 0).sorted().toArray();
        int least = -1;
        for (int i = 1; i < s.length; i++) {
            least = least == -1 ? s[i] - s[i - 1] : Math.min(least, s[i] - s[i - 1]);
        }
        return least;
    }

    int fallen() {
        int b = 0;
        for (int t = 0; t < a.land.towns.size(); t++) {
            b += a.land.towns.get(t) == -1 ? 1 << t : 0;
        }
        return b;
    }

    int said(int hand, int cell, int moves) {
        if (hand == -1) {
            a.said.clear();
            return 0;
        }
        if (!isHand(hand) || !isCell(cell) || moves < 0 || moves > 9999 || a.said.size() == 8) {
            return -2;
        }
        a.said.add(new int[] {hand, cell, moves});
        return a.said.size();
    }

    int whose() {
        int b = 0;
        for (int t = 0; t < a.texts.size(); t++) {
            Script law = a.texts.get(t);
            b += a.said.stream().allMatch(s -> amount(law, a.land, s[0], s[1], true) == s[2]) ? 1 << t : 0;
        }
        return b;
    }

    int ledger(int hand) {
        return hand != -1 && !isHand(hand) ? -2
                : a.land.book.stream().filter(s -> hand == -1 || s[1] == hand).mapToInt(s -> s[3]).sum();
    }

    int image() {
        image = a.copy();
        return a.land.turn;
    }

    int back() {
        a = image.copy();
        return a.land.turn;
    }

    int about(int what) {
        return switch (what) {
            case 0 -> a.hands.size();
            case 1 -> a.land.towns.size();
            case 2 -> a.texts.size();
            case 3 -> a.law;
            case 4 -> a.steps.size();
            case 5 -> a.said.size();
            case 6 -> tape.size();
            default -> -2;
        };
    }
}
