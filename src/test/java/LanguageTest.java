import java.io.IOException;
import java.lang.reflect.Constructor;
import java.lang.reflect.Field;
import java.lang.reflect.Method;
import java.lang.reflect.Modifier;
import java.nio.file.Files;
import java.nio.file.Path;
import java.util.Arrays;
import java.util.Collections;
import java.util.Map;
import java.util.Set;
import java.util.TreeSet;
import java.util.regex.Matcher;
import java.util.regex.Pattern;

/** The face of the document, and those rules of LANGUAGE.md that can be seen in the source and in the class. */
public final class LanguageTest {
    private static final String FACE = """
            hand(int)int dough(int,int)boolean town(int)int feed(int,int,int,int,int)int end(int)int text()int
            fault(int)int by(int)boolean stroke(int,int,boolean)int trim()int patch(int,int)boolean roll(int)int
            played(int)int years(int,int)int undo()int of(int,int)int ofTown(int)int ofHand(int)int
            moves(int,int,boolean)int is(int)int book(int,int)int foretold(int,int,int)int lake()int glaze(int)int
            rise(int)int folds()int peaks()int richest(int)int islands(int)int sees(int,boolean)int middle(int)int
            carried()int level()int shared(int,int)int ends(int,int)int endsFirst(int,int)int
            patches(int,int,boolean)int plan(int,int,int)int best(int)int which(int,boolean)int likely(int,boolean)int
            thin()int thick()int apart()int fallen()int said(int,int,int)int whose()int ledger(int)int image()int
            back()int about(int)int
            """;

    private static final Set<String> LIBRARY = Set.of("java/lang/Integer.bitCount(I)I", "java/lang/Math.abs(I)I",
            "java/lang/Math.max(II)I", "java/lang/Math.max(JJ)J", "java/lang/Math.min(II)I", "java/lang/Math.min(JJ)J",
            "java/lang/Object.<init>()V", "java/lang/String.charAt(I)C", "java/lang/String.length()I",
            "java/lang/System.arraycopy(Ljava/lang/Object;ILjava/lang/Object;II)V", "java/util/Arrays.copyOf([II)[I",
            "java/util/Arrays.fill([II)V");
    private static final Set<String> READING = Set.of("sum", "product", "one", "choice", "either", "both", "ask");

    private LanguageTest() {
    }

    public static void main(String[] args) throws IOException {
        String source = Files.readString(Path.of(System.getProperty("main.source", "src/main/java/RolledOut.java")));
        face();
        members();
        words(bare(source));
        methods(bare(source));
        compiled(Compiled.of(RolledOut.class));
        Due.end("LanguageTest");
    }

    private static void so(String what, boolean is) {
        Due.is(what, is, true);
    }

    private static void face() {
        Set<String> want = new TreeSet<>(Arrays.asList(FACE.trim().split("\\s+")));
        Set<String> got = new TreeSet<>();
        for (Method m : RolledOut.class.getDeclaredMethods()) {
            if (!Modifier.isPrivate(m.getModifiers())) {
                so(m + " is public", m.getModifiers() == Modifier.PUBLIC);
                String taken = String.join(",", Arrays.stream(m.getParameterTypes()).map(Class::getName).toList());
                got.add(m.getName() + "(" + taken + ")" + m.getReturnType().getName());
            }
        }
        so("the face is " + want + ", not " + got, want.equals(got));
        Constructor<?>[] made = RolledOut.class.getDeclaredConstructors();
        so("one constructor", made.length == 1 && made[0].getParameterCount() == 0
                && Modifier.isPublic(made[0].getModifiers()));
        for (Field f : RolledOut.class.getDeclaredFields()) {
            so(f + " is private, but NONE", Modifier.isPrivate(f.getModifiers()) || f.getName().equals("NONE"));
        }
        so("the class is public and final", RolledOut.class.getModifiers() == (Modifier.PUBLIC | Modifier.FINAL));
    }

    private static void members() {
        Set<String> names = new TreeSet<>();
        for (Method m : RolledOut.class.getMethods()) {
            names.add(m.getName());
        }
        Class<?>[] inside = RolledOut.class.getDeclaredClasses();
        so("twelve classes at most", inside.length + 1 <= 12);
        for (Class<?> c : inside) {
            so(c + " is static", Modifier.isStatic(c.getModifiers()) && !Modifier.isPublic(c.getModifiers()));
            for (Method m : c.getDeclaredMethods()) {
                so(m + " bears no public name", !names.contains(m.getName()));
                so(m + " takes seven at most", m.getParameterCount() <= 7);
            }
            int fields = 0;
            for (Field f : c.getDeclaredFields()) {
                fields += Modifier.isStatic(f.getModifiers()) ? 0 : 1;
                so(f + " is final if static", !Modifier.isStatic(f.getModifiers())
                        || Modifier.isFinal(f.getModifiers()));
            }
            so(c + " has twenty fields at most", fields <= 20);
        }
    }

    /** Without comments, texts and signs. */
    private static String bare(String source) {
        return source.replaceAll("(?s)/\\*.*?\\*/", "").replaceAll("//[^\n]*", "").replaceAll("\"[^\"\n]*\"", "\"\"")
                .replaceAll("'[^'\n]'", "' '");
    }

    private static void words(String source) {
        String[] none = {"throw", "throws", "try", "catch", "finally", "synchronized", "assert", "->", "::", "var",
            "package", "native", "volatile", "transient", "hashCode", "toString", "getClass", "Object", "double",
            "float", "Exact", "abstract", "protected"};
        for (String word : none) {
            String shape = Character.isLetter(word.charAt(0)) ? "\\b" + word + "\\b" : Pattern.quote(word);
            so("no " + word, !Pattern.compile(shape).matcher(source).find());
        }
        Matcher imports = Pattern.compile("import ([\\w.]+);").matcher(source);
        while (imports.find()) {
            so("import of " + imports.group(1), imports.group(1).equals("java.util.Arrays"));
        }
        Matcher calls = Pattern.compile("\\b(System|Arrays|Math|Integer|Long|String)\\.(\\w+)").matcher(source);
        Set<String> fine = Set.of("System.arraycopy", "Arrays.fill", "Arrays.copyOf", "Math.min", "Math.max",
                "Math.abs", "Integer.bitCount");
        while (calls.find()) {
            so(calls.group() + " is of the library", fine.contains(calls.group()));
        }
        for (int i = 0; i < source.length(); i++) {
            so("signs 1 to 127 alone", source.charAt(i) < 128);
        }
    }

    private static void methods(String source) {
        Matcher m = Pattern.compile("(?m)^( +)[\\w\\[\\] ]+\\([^;=]*\\) \\{$").matcher(source);
        while (m.find()) {
            int end = source.indexOf("\n" + m.group(1) + "}", m.start());
            long lines = source.substring(m.start(), end).lines().count();
            so(m.group().trim() + " has sixty lines at most, not " + lines, lines <= 60);
        }
    }

    private static void compiled(Compiled all) {
        for (Map.Entry<String, Compiled.Code> method : all.methods.entrySet()) {
            String name = method.getKey();
            Compiled.Code code = method.getValue();
            for (String call : code.calls) {
                so(name + " calls " + call, all.methods.containsKey(call) || LIBRARY.contains(call));
            }
            for (String field : code.statics) {
                so(name + " looks up " + field, field.startsWith("RolledOut"));
            }
            so(name + " throws, locks and catches nothing, and makes no lambda", code.caught == 0
                    && Collections.disjoint(code.instructions, Set.of(0xba, 0xbf, 0xc2, 0xc3)));
            so(name + " goes eight deep at most, not " + all.depth(name), all.depth(name) <= 8);
            makes(name, code);
            recursion(all, name, code);
        }
    }

    /** All is made by constructors, but what a text that is read keeps: so the room that calls take stays small. */
    private static void makes(String name, Compiled.Code code) {
        boolean once = name.contains(".<init>") || name.contains(".<clinit>");
        boolean reads = name.contains("Reader.readTape") || name.contains("Reader.readLaw");
        so(name + " makes nothing", once || reads || code.made.isEmpty());
        so(name + " copies nothing", reads || !code.calls.contains("java/util/Arrays.copyOf([II)[I"));
    }

    /** Laws are read, and plans sought, by methods that call themselves; how deep is an argument of each. */
    private static void recursion(Compiled all, String name, Compiled.Code code) {
        boolean again = code.calls.contains(name) || all.ring(name).size() > 1;
        boolean reading = name.startsWith("RolledOut$Reader.")
                && READING.contains(name.substring(name.indexOf('.') + 1, name.indexOf('(')));
        so(name + " doesn't call itself", !again || reading || name.equals("RolledOut$Trials.isPlan(IIII)Z"));
        so(name + " carries how deep it is", !reading || name.endsWith("(II)Z"));
    }
}
