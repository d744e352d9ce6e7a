import java.io.File;
import java.io.IOException;
import java.io.PrintWriter;
import java.io.StringWriter;
import java.net.URISyntaxException;
import java.nio.file.Path;
import java.util.ArrayList;
import java.util.List;
import java.util.Map;
import java.util.Set;
import java.util.TreeMap;
import java.util.TreeSet;
import java.util.regex.Matcher;
import java.util.regex.Pattern;
import java.util.spi.ToolProvider;

/** LANGUAGE.md 8 and 11: which methods call one another in a circle, and how deep the other calls go. */
public final class DepthTest {
    private static final int MOST_DEEP = 8;
    /** Those whose depth is carried as an argument and refused beyond 8 brackets. */
    private static final Set<String> CIRCLES = Set.of("Reader.readTest", "Reader.readBoth", "Reader.readPlain",
        "Reader.readSum", "Reader.readTerm", "Reader.readPart");
    private static final Pattern METHOD = Pattern.compile("^  [^ ].*?([\\w$<>]+)\\(.*\\);$");
    private static final Pattern CALL = Pattern.compile("invoke\\w+ .*// (?:Interface)?Method (?:([\\w/$]+)\\.)?\"?([\\w<>]+)\"?:");

    private static final Map<String, Set<String>> calls = new TreeMap<>();
    private static final Map<String, Integer> deep = new TreeMap<>();
    private static int wrong = 0;

    private static void fail(String what) {
        wrong++;
        System.out.println("not as the rules want it: " + what);
    }

    private static String named(String owner, String method) {
        String shortOwner = owner.substring(owner.lastIndexOf('$') + 1);
        return shortOwner + "." + (method.equals(owner) ? "<init>" : method);
    }

    private static void read(ToolProvider javap, File file) {
        String owner = file.getName().replace(".class", "");
        StringWriter out = new StringWriter();
        javap.run(new PrintWriter(out), new PrintWriter(out), "-c", "-p", file.getPath());
        String at = null;
        for (String line : out.toString().split("\n")) {
            Matcher method = METHOD.matcher(line);
            Matcher call = CALL.matcher(line);
            if (method.matches()) {
                at = named(owner, method.group(1));
                calls.putIfAbsent(at, new TreeSet<>());
            } else if (at != null && call.find()) {
                String to = call.group(1) == null ? owner : call.group(1);
                if (to.startsWith("KeyKeepers")) calls.get(at).add(named(to, call.group(2)));
            }
        }
    }

    /** All that a method comes to. */
    private static Set<String> reach(String from) {
        Set<String> reached = new TreeSet<>();
        List<String> open = new ArrayList<>(calls.getOrDefault(from, Set.of()));
        while (!open.isEmpty()) {
            String next = open.remove(open.size() - 1);
            if (reached.add(next)) open.addAll(calls.getOrDefault(next, Set.of()));
        }
        return reached;
    }

    /** The methods of one circle stand for one call. */
    private static int depth(String method) {
        Integer known = deep.get(method);
        if (known != null) return known;
        Set<String> circle = new TreeSet<>(Set.of(method));
        for (String other : reach(method)) if (reach(other).contains(method)) circle.add(other);
        int most = 0;
        for (String one : circle) {
            for (String next : calls.getOrDefault(one, Set.of())) {
                if (!circle.contains(next)) most = Math.max(most, depth(next));
            }
        }
        for (String one : circle) deep.put(one, most + 1);
        return most + 1;
    }

    public static void main(String[] args) throws IOException, URISyntaxException {
        ToolProvider javap = ToolProvider.findFirst("javap").orElse(null);
        if (javap == null) {
            System.out.println("no javap here: how deep calls go is not asked");
            return;
        }
        File[] files = Path.of(KeyKeepers.class.getProtectionDomain().getCodeSource().getLocation().toURI()).toFile()
            .listFiles((dir, name) -> name.matches("KeyKeepers(\\$\\w+)?\\.class"));
        for (File file : files == null ? new File[0] : files) read(javap, file);
        if (!calls.containsKey("KeyKeepers.rota")) fail("no calls were read");
        int most = 0;
        for (String method : calls.keySet()) {
            most = Math.max(most, depth(method));
            if (depth(method) > MOST_DEEP) fail(method + " goes " + depth(method) + " deep");
            if (reach(method).contains(method) && !CIRCLES.contains(method)) fail(method + " comes to itself");
        }
        System.out.println(calls.size() + " methods, at most " + most + " deep");
        if (wrong != 0) System.exit(1);
    }
}
