import java.nio.charset.StandardCharsets;
import java.util.ArrayList;
import java.util.List;
import java.util.Random;

/** Runs of calls, drawn from fixed seeds, on the class and on the plain model side by side. */
public final class ModelTest {
    private static final int CALLS = 55;

    private final Random random;
    private final RolledOut x = new RolledOut();
    private final Model m = new Model();
    private final List<String> told = new ArrayList<>();
    private final long seed;
    private final boolean small;
    private int calls;

    private ModelTest(long seed) {
        this.seed = seed;
        this.random = new Random(seed);
        this.small = random.nextInt(3) == 0;
    }

    public static void main(String[] args) {
        int runs = args.length > 0 ? Integer.parseInt(args[0]) : 1500;
        long first = args.length > 1 ? Long.parseLong(args[1]) : 1;
        long asked = 0;
        int wrong = 0;
        int[] seen = new int[7];
        for (long seed = first; seed < first + runs && wrong < 5; seed++) {
            ModelTest run = new ModelTest(seed);
            if (!run.run()) {
                wrong++;
            }
            asked += run.calls;
            seen[Math.max(0, run.m.fault)]++;
        }
        System.out.println("ModelTest: " + asked + " answers, latest faults " + java.util.Arrays.toString(seen));
        if (wrong != 0) {
            System.exit(1);
        }
    }

    private boolean run() {
        int many = random.nextInt(4) == 0 ? 512 : 40 + random.nextInt(200);
        for (int i = 0; i < random.nextInt(4); i++) {
            ask(0);
        }
        while (calls < many) {
            if (!ask(random.nextInt(CALLS))) {
                return false;
            }
        }
        return true;
    }

    /** Mostly from least to most, now and then what is none. */
    private int among(int least, int most) {
        int odd = random.nextInt(60);
        if (odd == 0) {
            return least - 1;
        }
        if (odd == 1) {
            return most + 1;
        }
        if (odd == 2) {
            return random.nextBoolean() ? Integer.MIN_VALUE : Integer.MAX_VALUE;
        }
        if (odd == 3) {
            return random.nextInt();
        }
        return least + random.nextInt(most - least + 1);
    }

    private boolean same(String call, long got, long want) {
        calls++;
        told.add(call + " = " + got);
        if (got == want) {
            return true;
        }
        System.out.println("seed " + seed + ": " + call + " answered " + got + ", the model " + want);
        for (String t : told) {
            System.out.println("    " + t);
        }
        return false;
    }

    private boolean same(String call, boolean got, boolean want) {
        return same(call, got ? 1 : 0, want ? 1 : 0);
    }

    private int hand() {
        return among(0, Math.max(0, m.a.hands.size() - 1));
    }

    private int dough() {
        return small ? random.nextInt(8) : random.nextInt(5) == 0 ? among(0, 999) : random.nextInt(60);
    }

    private boolean readText() {
        byte[] bytes = new Texts(random).any().getBytes(StandardCharsets.ISO_8859_1);
        told.add("[" + new String(bytes, StandardCharsets.ISO_8859_1) + "]");
        x.end(0);
        m.end(0);
        boolean fine = true;
        for (int at = 0; at < bytes.length && fine; at += 20) {
            int[] f = Due.five(bytes, at);
            fine = same("feed", x.feed(f[0], f[1], f[2], f[3], f[4]), m.feed(f));
        }
        fine = fine && same("end", x.end(bytes.length), m.end(bytes.length));
        fine = fine && same("text", x.text(), m.text());
        int law = among(-1, 3);
        return fine && same("fault(0)", x.fault(0), m.fault(0)) && same("fault(1)", x.fault(1), m.fault(1))
                && same("by " + law, x.by(law), m.by(law));
    }

    private boolean ask(int call) {
        if (call <= 15) {
            return tell(call);
        }
        if (call <= 30) {
            return look(call);
        }
        return seek(call);
    }

    private boolean tell(int call) {
        int h = hand();
        int c = among(0, 11);
        int d = dough();
        boolean r = random.nextBoolean();
        switch (call) {
            case 0: {
                int s = among(1, 9);
                return same("hand " + s, x.hand(s), m.hand(s));
            }
            case 1: return same("dough " + c + " " + d, x.dough(c, d), m.dough(c, d));
            case 2: return same("town " + c, x.town(c), m.town(c));
            case 3: return readText();
            case 4: {
                int t = among(-1, 3);
                return same("by " + t, x.by(t), m.by(t));
            }
            case 5:
            case 6:
            case 7: return same("stroke " + h + " " + c + " " + r, x.stroke(h, c, r), m.stroke(h, c, r));
            case 8: return same("trim", x.trim(), m.trim());
            case 9: {
                int n = random.nextBoolean() ? among(1, 99) : 1 + random.nextInt(4);
                int torn = m.is(4) == 0 || r ? c : Integer.numberOfTrailingZeros(m.is(4));
                return same("patch " + torn + " " + n, x.patch(torn, n), m.patch(torn, n));
            }
            case 10: {
                int n = random.nextBoolean() ? among(1, 60) : 1 + random.nextInt(3);
                return same("roll " + n, x.roll(n), m.roll(n));
            }
            case 11: {
                int t = among(0, 3);
                return same("played " + t, x.played(t), m.played(t));
            }
            case 12: {
                int s = among(0, 9999);
                int n = among(1, 40);
                return same("years " + s + " " + n, x.years(s, n), m.years(s, n));
            }
            case 13:
                return same("undo", x.undo(), m.undo()) && whole();
            case 14:
                return random.nextInt(3) > 0 || same("image", x.image(), m.image()) && whole();
            default:
                return random.nextInt(4) > 0 || same("back", x.back(), m.back()) && whole();
        }
    }

    private boolean whole() {
        boolean fine = true;
        for (int i = 0; i <= 6 && fine; i++) {
            fine = same("is " + i, x.is(i), m.is(i)) && same("about " + i, x.about(i), m.about(i));
        }
        for (int i = 0; i < 12 && fine; i++) {
            fine = same("of " + i, x.of(i, 0), m.of(i, 0));
        }
        for (int i = 0; i < 6 && fine; i++) {
            fine = same("ofTown " + i, x.ofTown(i), m.ofTown(i));
        }
        for (int i = -1; i < 31 && fine; i++) {
            int what = random.nextInt(4);
            fine = same("book " + i + " " + what, x.book(i, what), m.book(i, what));
        }
        return fine;
    }

    private boolean look(int call) {
        int c = among(0, 11);
        int h = hand();
        boolean r = random.nextBoolean();
        switch (call) {
            case 16: {
                int w = among(0, 3);
                return same("of " + c + " " + w, x.of(c, w), m.of(c, w));
            }
            case 17: {
                int t = among(0, 5);
                return same("ofTown " + t, x.ofTown(t), m.ofTown(t));
            }
            case 18: return same("ofHand " + h, x.ofHand(h), m.ofHand(h));
            case 19:
            case 20: return same("moves " + h + " " + c + " " + r, x.moves(h, c, r), m.moves(h, c, r));
            case 21: {
                int w = among(0, 5);
                return same("is " + w, x.is(w), m.is(w));
            }
            case 22: {
                int i = among(-1, 29);
                int w = among(0, 3);
                return same("book " + i + " " + w, x.book(i, w), m.book(i, w));
            }
            case 23: {
                int n = among(1, 60);
                int w = among(0, 2);
                int i = w == 1 ? among(0, 5) : c;
                return same("foretold " + n + " " + w + " " + i, x.foretold(n, w, i), m.foretold(n, w, i));
            }
            case 24: return same("lake", x.lake(), m.lake());
            case 25: {
                int w = among(0, 2);
                return same("glaze " + w, x.glaze(w), m.glaze(w));
            }
            case 26: {
                int i = among(-1, 5);
                return same("rise " + i, x.rise(i), m.rise(i));
            }
            case 27: return same("folds", x.folds(), m.folds());
            case 28: return same("peaks", x.peaks(), m.peaks());
            case 29: {
                int n = among(1, 12);
                return same("richest " + n, x.richest(n), m.richest(n));
            }
            default: {
                int l = random.nextBoolean() ? among(0, 9999) : random.nextInt(40);
                return same("islands " + l, x.islands(l), m.islands(l));
            }
        }
    }

    private boolean seek(int call) {
        int c = among(0, 11);
        int h = hand();
        boolean r = random.nextBoolean();
        switch (call) {
            case 31: return same("sees " + c + " " + r, x.sees(c, r), m.sees(c, r));
            case 32: {
                int k = among(1, 12);
                return same("middle " + k, x.middle(k), m.middle(k));
            }
            case 33: return same("carried", x.carried(), m.carried());
            case 34: return same("level", x.level(), m.level());
            case 35: {
                int n = among(1, 6);
                int i = among(-1, 5);
                return same("shared " + n + " " + i, x.shared(n, i), m.shared(n, i));
            }
            case 36:
            case 37: {
                int b = among(0, 11);
                return same("ends " + c + " " + b, x.ends(c, b), m.ends(c, b))
                        && same("endsFirst " + c + " " + b, x.endsFirst(c, b), m.endsFirst(c, b));
            }
            case 38: {
                int one = among(1, 6);
                int two = among(1, 6);
                return same("patches " + one + " " + two + " " + r, x.patches(one, two, r), m.patches(one, two, r));
            }
            case 39: {
                int most = random.nextInt(4) == 0 ? among(0, 9999)
                        : Math.max(0, m.middle(12) - random.nextInt(2 + m.middle(12) / 2));
                int i = among(-1, 2);
                return random.nextInt(3) > 0
                        || same("plan " + h + " " + most + " " + i, x.plan(h, most, i), m.plan(h, most, i));
            }
            case 40: return same("best " + h, x.best(h), m.best(h));
            case 41: return same("which " + h + " " + r, x.which(h, r), m.which(h, r));
            case 42: return same("likely " + h + " " + r, x.likely(h, r), m.likely(h, r));
            case 43: return same("thin", x.thin(), m.thin());
            case 44: return same("thick", x.thick(), m.thick());
            case 45: return same("apart", x.apart(), m.apart());
            case 46: return same("fallen", x.fallen(), m.fallen());
            case 47: return said();
            case 48: return same("whose", x.whose(), m.whose());
            case 49: {
                int g = random.nextInt(3) == 0 ? -1 : h;
                return same("ledger " + g, x.ledger(g), m.ledger(g));
            }
            case 50: {
                int w = among(0, 6);
                return same("about " + w, x.about(w), m.about(w));
            }
            case 51: return strokesFromImage(h);
            default: return same("fault " + r, x.fault(r ? 1 : 0), m.fault(r ? 1 : 0));
        }
    }

    private boolean said() {
        int g = random.nextInt(6) == 0 ? -1 : hand();
        int c = among(0, 11);
        int much = random.nextInt(3) == 0 ? among(0, 9999) : m.moves(g, c, true);
        return same("said " + g + " " + c + " " + much, x.said(g, c, much), m.said(g, c, much));
    }

    /** An image, a stroke or two by one hand, and the question which it was. */
    private boolean strokesFromImage(int h) {
        boolean fine = same("image", x.image(), m.image());
        int many = 1 + random.nextInt(3);
        for (int i = 0; i < many && fine; i++) {
            int c = random.nextInt(12);
            boolean r = random.nextBoolean();
            fine = same("stroke " + h + " " + c + " " + r, x.stroke(h, c, r), m.stroke(h, c, r));
        }
        return fine && same("which " + h, x.which(h, false), m.which(h, false))
                && same("which first " + h, x.which(h, true), m.which(h, true))
                && same("carried", x.carried(), m.carried());
    }
}
