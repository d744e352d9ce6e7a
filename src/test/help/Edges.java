import java.io.IOException;
import java.lang.reflect.InvocationTargetException;
import java.lang.reflect.Method;
import java.nio.charset.StandardCharsets;
import java.nio.file.Files;
import java.nio.file.Path;
import java.util.ArrayList;
import java.util.Comparator;
import java.util.List;

/** Runs the methods that bear an Edge, by promises, and tells what failed. */
final class Edges {
    /** Numbers far from all that the document names, some of which a wrap-around would bring back. */
    static final int[] FAR = {Integer.MIN_VALUE, Integer.MIN_VALUE + 1, -256, -32, -2, 256, 1 << 16, 1 << 30, Integer.MAX_VALUE};

    private static final int PROMISES = 43;

    private static int failed = 0;
    private static int asked = 0;
    private static String current = "";

    static void due(String call, int got, int want) {
        asked++;
        if (got != want) {
            fail(call + " answered " + got + ", due is " + want);
        }
    }

    /** A call was REFUSED: by its answer and by status(). */
    static void refused(KeyKeepers x, String call, int got, int by) {
        due(call, got, by);
        due("status() behind " + call, x.status(), by);
    }

    /** A call answered and was not REFUSED. */
    static void fine(KeyKeepers x, String call, int got, int want) {
        due(call, got, want);
        due("status() behind " + call, x.status(), 0);
    }

    private static void fail(String what) {
        failed++;
        System.out.println(current + ": " + what);
    }

    static void run(Class<?>... classes) throws IOException {
        List<Method> tests = new ArrayList<>();
        for (Class<?> c : classes) {
            for (Method m : c.getDeclaredMethods()) {
                if (m.isAnnotationPresent(Edge.class)) tests.add(m);
            }
        }
        tests.sort(Comparator.comparing((Method m) -> m.getAnnotation(Edge.class).promise()).thenComparing(Method::getName));
        boolean[] tested = new boolean[PROMISES + 1];
        for (Method m : tests) {
            runOne(m);
            tested[m.getAnnotation(Edge.class).promise()] = true;
        }
        for (int p = 1; p <= PROMISES; p++) {
            if (!tested[p]) fail("promise " + p + " has no test");
        }
        tellQuotes(tests);
        System.out.println(tests.size() + " sentences, " + asked + " calls asked, " + failed + " are not as due");
        if (failed != 0) System.exit(1);
    }

    private static void runOne(Method m) {
        Edge edge = m.getAnnotation(Edge.class);
        current = "promise " + edge.promise() + ", \"" + edge.says() + "\", " + m.getName();
        int ahead = asked;
        try {
            m.invoke(null);
        } catch (InvocationTargetException | IllegalAccessException e) {
            fail("threw " + (e.getCause() == null ? e : e.getCause()));
        }
        if (asked == ahead) fail("asks nothing");
    }

    /**
     * Tells which tests bear words that do not stand in the document, so that a document that changes shows which tests
     * must. That alone is no failure: the answers are judged by the tests.
     */
    private static void tellQuotes(List<Method> tests) throws IOException {
        Path path = Path.of("../shared/DOC.md");
        if (!Files.exists(path)) return;
        String document = Files.readString(path, StandardCharsets.UTF_8).replaceAll("\\s+", " ");
        for (Method m : tests) {
            String says = m.getAnnotation(Edge.class).says();
            if (!document.contains(says)) System.out.println(m.getName() + ": the document no longer says \"" + says + "\"");
        }
    }
}
