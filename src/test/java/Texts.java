import java.util.Random;

/** Texts by the grammar, some with a byte, a token or an end that is not as it should be. */
final class Texts {
    private final Random random;
    private final StringBuilder out = new StringBuilder();
    private boolean inMoves;

    Texts(Random random) {
        this.random = random;
    }

    private int below(int n) {
        return random.nextInt(n);
    }

    private String pick(String... some) {
        return some[below(some.length)];
    }

    String any() {
        String text = script();
        if (below(3) == 0) {
            text = spoiled(text);
        }
        return text.length() > 300 ? text.substring(0, below(2) == 0 ? 300 : 280) : text;
    }

    private String spoiled(String text) {
        if (text.isEmpty()) {
            return pick(" ", "\n", ";", "x", "\t");
        }
        int at = below(text.length());
        String odd = pick("(", ")", ";", "not ", " if ", "-", "#", "<", "=", "%", " 10000 ", " 12 ", " next ", "sheet ",
                " moves ", "A", "\u00e9", "\t", "\u0000", " end ", " then ", " 9 ", " or ", "!");
        switch (below(4)) {
            case 0: return text.substring(0, at);
            case 1: return text.substring(0, at) + text.substring(at + 1);
            case 2: return text.substring(0, at) + odd + text.substring(at);
            default: return text.substring(0, at) + odd + text.substring(at + 1);
        }
    }

    private String script() {
        out.setLength(0);
        int clauses = below(12) == 0 ? 20 + below(8) : below(9);
        int moves = below(clauses + 2);
        int tears = below(clauses + 2);
        int again = below(8) == 0 ? below(clauses + 2) : -1;
        int deep = below(6) == 0 ? 20 : 3 + below(7);
        for (int i = 0; i < clauses; i++) {
            if (i == moves || i == again) {
                inMoves = true;
                say("moves ");
                sum(deep);
            } else if (i == tears) {
                inMoves = false;
                say("tears ");
                sum(deep);
            } else {
                deed(clauses > 15);
            }
            say(pick(";", ";", " ;", ";\n", "; "));
        }
        return out.toString();
    }

    private void say(String some) {
        out.append(some);
    }

    private int odd(int usual, int wild) {
        return below(40) == 0 ? wild : usual;
    }

    private void deed(boolean brief) {
        switch (brief ? below(2) : below(9)) {
            case 0 -> say("trim");
            case 1 -> say("turn " + odd(1 + below(3), below(70)));
            case 2 -> say("hand " + odd(1 + below(9), below(12)));
            case 3 -> say("dough " + odd(below(60), below(1100)) + " at " + odd(below(12), 12));
            case 4 -> say("town " + odd(below(12), 12));
            case 5 -> say("patch " + odd(1 + below(5), below(110)) + pick(" at ", "at ") + odd(below(12), 12));
            default -> say(pick("left ", "right") + odd(below(12), 12) + pick("by", " by ") + odd(below(3), below(5)));
        }
    }

    private void sum(int depth) {
        product(depth);
        while (below(4) == 0) {
            say(pick("+", "-", " + ", " - "));
            product(depth);
        }
    }

    private void product(int depth) {
        one(depth);
        while (below(4) == 0) {
            say(pick("*", "/", " / "));
            one(depth);
        }
    }

    private void one(int depth) {
        if (depth <= 0) {
            leaf();
            return;
        }
        switch (depth > 9 ? below(5) : below(9)) {
            case 0 -> {
                say("(");
                sum(depth - 1);
                say(")");
            }
            case 1 -> {
                say("-");
                one(depth - 1);
            }
            case 2 -> {
                say(pick("square ", "sheet "));
                one(depth - 1);
            }
            case 3 -> {
                say("if ");
                either(depth - 1);
                say(" then ");
                sum(depth - 2);
                say(" else ");
                sum(depth - 2);
                say(" end ");
            }
            default -> leaf();
        }
    }

    private void leaf() {
        if (below(3) == 0) {
            say(pick("0", "1", "2", "3", "5", "10", "007", "999", "9999", odd(4, 10000) + ""));
        } else if (inMoves || below(30) == 0) {
            say(pick(" strength ", " who ", " next ", " right ", " dough ", " cell "));
        } else {
            say(pick(" turn ", " cell ", " dough ", " torn "));
        }
    }

    private void either(int depth) {
        ask(depth);
        while (below(4) == 0) {
            say(pick(" or ", " and "));
            ask(depth);
        }
    }

    private void ask(int depth) {
        if (depth > 0 && below(5) == 0) {
            say("not ");
            ask(depth - 1);
            return;
        }
        sum(depth - 1);
        say(pick("<", "<=", ">", ">=", "=", "#"));
        sum(depth - 1);
    }
}
