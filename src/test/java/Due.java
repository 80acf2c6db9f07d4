import java.nio.charset.StandardCharsets;

/** What the tests share: counting answers that are not as due, and feeding a text to an object. */
final class Due {
    private static int asked;
    private static int wrong;

    private Due() {
    }

    static void is(String call, long got, long want) {
        asked++;
        if (got != want) {
            wrong++;
            System.out.println(call + " answered " + got + ", due is " + want);
        }
    }

    static void is(String call, boolean got, boolean want) {
        is(call, got ? 1 : 0, want ? 1 : 0);
    }

    /** The tape has this text alone: its length, or what feed answered if that was NONE. */
    static int put(RolledOut x, String text) {
        return put(x, text.getBytes(StandardCharsets.ISO_8859_1));
    }

    static int put(RolledOut x, byte[] bytes) {
        x.end(0);
        for (int at = 0; at < bytes.length; at += 20) {
            int[] five = five(bytes, at);
            if (x.feed(five[0], five[1], five[2], five[3], five[4]) == RolledOut.NONE) {
                return RolledOut.NONE;
            }
        }
        return x.end(bytes.length);
    }

    static int[] five(byte[] bytes, int from) {
        int[] five = new int[5];
        for (int i = 0; i < 20; i++) {
            int one = from + i < bytes.length ? bytes[from + i] & 255 : 0;
            five[i / 4] |= one << (24 - 8 * (i % 4));
        }
        return five;
    }

    static int read(RolledOut x, String text) {
        put(x, text);
        return x.text();
    }

    /** Reads a text that has a fault, on an object of its own. */
    static void fault(String text, int fault, int place) {
        RolledOut x = new RolledOut();
        is("text() of [" + text + "]", read(x, text), fault == 0 ? 0 : -1);
        is("fault(0) of [" + text + "]", x.fault(0), fault);
        is("fault(1) of [" + text + "]", x.fault(1), place);
        is("about(6) behind [" + text + "]", x.about(6), 0);
    }

    static void lay(RolledOut x, int... dough) {
        for (int cell = 0; cell < dough.length; cell++) {
            x.dough(cell, dough[cell]);
        }
    }

    static void end(String name) {
        System.out.println(name + ": " + asked + " answers, " + wrong + " not as due");
        if (wrong != 0) {
            System.exit(1);
        }
    }
}
