import java.io.IOException;
import java.lang.reflect.InvocationTargetException;
import java.lang.reflect.Method;
import java.nio.file.Files;
import java.nio.file.Path;
import java.util.ArrayList;
import java.util.Comparator;
import java.util.List;

/** Runs one test for each boundary case that the document names; each test tells the promise and quotes the words. */
public final class EdgesTest {
    private static final int PROMISES = 52;
    private static final Class<?>[] PARTS = {EdgesTold.class, EdgesRead.class, EdgesLaws.class, EdgesDone.class,
        EdgesYears.class, EdgesAsked.class, EdgesLay.class, EdgesSought.class, EdgesKept.class};

    private EdgesTest() {
    }

    public static void main(String[] args) throws IOException, IllegalAccessException {
        Path doc = Path.of(System.getProperty("shared", "../shared"), "DOC.md");
        String words = Files.exists(doc) ? Files.readString(doc) : null;
        List<Method> tests = tests();
        boolean[] tested = new boolean[PROMISES + 1];
        for (Method test : tests) {
            Says says = test.getAnnotation(Says.class);
            Due.within("Promise " + says.promise() + ", " + test.getDeclaringClass().getName() + "." + test.getName()
                    + " (\"" + says.words() + "\"): ");
            Due.is("the document says so", words == null || words.contains(says.words()), true);
            tested[says.promise()] = true;
            run(test);
        }
        Due.within("");
        for (int promise = 1; promise <= PROMISES; promise++) {
            Due.is("promise " + promise + " has a test", tested[promise], true);
        }
        System.out.println("EdgesTest: " + tests.size() + " tests" + (words == null ? ", no document at " + doc : ""));
        Due.end("EdgesTest");
    }

    private static List<Method> tests() {
        List<Method> found = new ArrayList<>();
        for (Class<?> part : PARTS) {
            for (Method method : part.getDeclaredMethods()) {
                if (method.isAnnotationPresent(Says.class)) {
                    found.add(method);
                }
            }
        }
        found.sort(Comparator.comparing((Method m) -> m.getAnnotation(Says.class).promise())
                .thenComparing(Method::getName));
        return found;
    }

    /** What is thrown is a wrong answer too, and leaves the other tests to run. */
    private static void run(Method test) throws IllegalAccessException {
        try {
            test.invoke(null);
        } catch (InvocationTargetException thrown) {
            Due.is("threw " + thrown.getCause(), true, false);
        }
    }
}
