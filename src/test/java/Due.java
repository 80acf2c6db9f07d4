import java.nio.charset.StandardCharsets;

/** What the tests share: counting answers that are not as due, and feeding a text to an object. */
final class Due {
    private static int asked;
    private static int wrong;
    private static String test = "";

    private Due() {
    }

    /** What stands ahead of each wrong answer from now on. */
    static void within(String name) {
        test = name;
    }

    static void is(String call, long got, long want) {
        asked++;
        if (got != want) {
            wrong++;
            System.out.println(test + call + " answered " + got + ", due is " + want);
        }
    }

    static void is(String call, boolean got, boolean want) {
        is(call, got ? 1 : 0, want ? 1 : 0);
    }

    /** The tape has this text alone: its length, or what feed answered if that was NONE. */
    static int put(RolledOut x, String text) {
        return put(x, text.getBytes(StandardCharsets.ISO_8859_1));
    }

    static int put(RolledOut x, byte[] bytes) {
        x.end(0);
        for (int at = 0; at < bytes.length; at += 20) {
            int[] five = five(bytes, at);
            if (x.feed(five[0], five[1], five[2], five[3], five[4]) == RolledOut.NONE) {
                return RolledOut.NONE;
            }
        }
        return x.end(bytes.length);
    }

    static int[] five(byte[] bytes, int from) {
        int[] five = new int[5];
        for (int i = 0; i < 20; i++) {
            int one = from + i < bytes.length ? bytes[from + i] & 255 : 0;
            five[i / 4] |= one << (24 - 8 * (i % 4));
        }
        return five;
    }

    static int read(RolledOut x, String text) {
        put(x, text);
        return x.text();
    }

    /** A new object with a hand of each of these strengths. */
    static RolledOut made(int... strengths) {
        RolledOut x = new RolledOut();
        for (int i = 0; i < strengths.length; i++) {
            is("hand(" + strengths[i] + ")", x.hand(strengths[i]), i);
        }
        return x;
    }

    /** A new object with one hand, of strength 1, on which a text rules. */
    static RolledOut ruled(String text) {
        RolledOut x = made(1);
        rule(x, text);
        return x;
    }

    static void rule(RolledOut x, String text) {
        int number = read(x, text);
        is("text() of [" + text + "]", number, x.about(2) - 1);
        is("by its number", x.by(number), true);
    }

    /** Turns pass until it is this one. */
    static void pass(RolledOut x, int turn) {
        for (int left = turn - x.is(0); left > 0; left -= 60) {
            x.roll(Math.min(60, left));
        }
        is("turn", x.is(0), turn);
    }

    /** X as it is behind so many draws. */
    static int drawn(int x, int draws) {
        int then = x;
        for (int i = 0; i < draws; i++) {
            then = (then * 541 + 419) % 30713;
        }
        return then;
    }

    static void row(RolledOut x, int... dough) {
        for (int cell = 0; cell < dough.length; cell++) {
            is("dough of cell " + cell, x.of(cell, 0), dough[cell]);
        }
    }

    /** All that can be asked of what steps change, in one line: two objects are so alike, or one behind two calls. */
    static String all(RolledOut x) {
        StringBuilder line = new StringBuilder();
        for (int cell = 0; cell < 12; cell++) {
            line.append(x.of(cell, 0)).append('/').append(x.of(cell, 2)).append(' ');
        }
        for (int what = 0; what < 5; what++) {
            line.append(" is").append(what).append('=').append(x.is(what));
        }
        for (int what = 0; what < 7; what++) {
            line.append(" about").append(what).append('=').append(x.about(what));
        }
        line.append(" fallen=").append(x.fallen()).append(" book");
        for (int i = 0; i < x.book(RolledOut.NONE, 0); i++) {
            line.append(' ').append(x.book(i, 0)).append('/').append(x.book(i, 1)).append('/').append(x.book(i, 2))
                    .append('/').append(x.book(i, 3));
        }
        return line.toString();
    }

    static void same(String what, String got, String want) {
        asked++;
        if (!got.equals(want)) {
            wrong++;
            System.out.println(test + what + "\n  is  " + got + "\n  not " + want);
        }
    }

    /** Reads a text that has a fault, on an object of its own. */
    static void fault(String text, int fault, int place) {
        RolledOut x = new RolledOut();
        is("text() of [" + text + "]", read(x, text), fault == 0 ? 0 : -1);
        is("fault(0) of [" + text + "]", x.fault(0), fault);
        is("fault(1) of [" + text + "]", x.fault(1), place);
        is("about(6) behind [" + text + "]", x.about(6), 0);
    }

    static void lay(RolledOut x, int... dough) {
        for (int cell = 0; cell < dough.length; cell++) {
            x.dough(cell, dough[cell]);
        }
    }

    static void end(String name) {
        System.out.println(name + ": " + asked + " answers, " + wrong + " not as due");
        if (wrong != 0) {
            System.exit(1);
        }
    }
}
