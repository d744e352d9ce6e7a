import java.lang.management.ManagementFactory;
import java.lang.reflect.Constructor;
import java.lang.reflect.Field;
import java.lang.reflect.Method;
import java.lang.reflect.Modifier;
import java.nio.charset.StandardCharsets;
import java.nio.file.Files;
import java.nio.file.Path;
import java.util.ArrayList;
import java.util.Arrays;
import java.util.List;
import java.util.TreeSet;
import java.util.regex.Matcher;
import java.util.regex.Pattern;

/** What can be seen of LANGUAGE.md's rules and of the document's face without running the promises. */
public final class RulesTest {
    private static final String FACE = "door(2) wall(2) prisoner(3) of(2) key(3) trust(3) vote(2) terms(2) feed(5) end(1) "
        + "row(0) rats(0) law(0) orders(0) fault(0) stopped(0) force(1) asks(3) go(2) give(3) inspect(0) pass(0) undo(0) "
        + "opens(2) way(1) cut(2) together(0) rota(1) rests(1) parted(2) tally(2) forget(0) out(1) next(1) voted(1) "
        + "sure(2) nights(2) drawn(2) image(1) back(1) count(1) status(0)";
    private static int wrong = 0;

    private static void must(boolean is, String what) {
        if (!is) {
            wrong++;
            System.out.println("not as the rules want it: " + what);
        }
    }

    private static void face() {
        Class<?> c = KeyKeepers.class;
        must(Modifier.isPublic(c.getModifiers()) && Modifier.isFinal(c.getModifiers()), "public final class");
        TreeSet<String> got = new TreeSet<>();
        TreeSet<String> names = new TreeSet<>();
        for (Method m : c.getDeclaredMethods()) {
            if (Modifier.isPrivate(m.getModifiers())) continue;
            must(Modifier.isPublic(m.getModifiers()) && !Modifier.isStatic(m.getModifiers()), m.toString());
            must(m.getReturnType() == int.class, m.toString());
            for (Class<?> p : m.getParameterTypes()) must(p == int.class, m.toString());
            got.add(m.getName() + "(" + m.getParameterCount() + ")");
            names.add(m.getName());
        }
        must(got.equals(new TreeSet<>(Arrays.asList(FACE.split(" ")))), "the face: " + got);
        Constructor<?>[] made = c.getDeclaredConstructors();
        must(made.length == 1 && Modifier.isPublic(made[0].getModifiers()) && made[0].getParameterCount() == 0, "constructor");
        for (Field f : c.getDeclaredFields()) {
            must(Modifier.isPrivate(f.getModifiers()) || f.getName().equals("NONE"), f.toString());
        }
        List<Class<?>> all = new ArrayList<>(Arrays.asList(c.getDeclaredClasses()));
        must(all.size() <= 11, "twelve classes");
        all.add(c);
        for (Class<?> k : all) classRules(k, names, k == c);
    }

    private static void classRules(Class<?> k, TreeSet<String> names, boolean outer) {
        must(outer || Modifier.isStatic(k.getModifiers()), k + " is static");
        int fields = 0;
        for (Field f : k.getDeclaredFields()) {
            if (!Modifier.isStatic(f.getModifiers())) fields++;
            must(!Modifier.isStatic(f.getModifiers()) || Modifier.isFinal(f.getModifiers()), f + " is final");
        }
        must(fields <= 20, k + " has " + fields + " fields");
        for (Method m : k.getDeclaredMethods()) {
            must(m.getParameterCount() <= 7, m.toString());
            must(outer && Modifier.isPublic(m.getModifiers()) || !names.contains(m.getName()), m + " bears a public name");
        }
    }

    private static void source(String text) {
        for (int i = 0; i < text.length(); i++) {
            char c = text.charAt(i);
            if (c != '\n' && (c < 32 || c > 126)) must(false, "sign " + (int) c + " at " + i);
        }
        String code = text.replaceAll("(?s)/\\*.*?\\*/", "").replaceAll("//[^\n]*", "").replaceAll("\"[^\"]*\"", "\"\"");
        String[] words = {"throw", "throws", "try", "catch", "synchronized", "assert", "import", "package", "protected",
            "double", "float", "instanceof", "native", "volatile", "transient", "var", "yield"};
        for (String w : words) must(!Pattern.compile("\\b" + w + "\\b").matcher(code).find(), "the word " + w);
        for (String w : new String[] {"->", "::", "Exact", "\" +", "+ \"", "while (true)", "for (;;)", "System.out"}) {
            must(!code.contains(w), "the signs " + w);
        }
        Matcher loops = Pattern.compile("\\b(while|for) \\(([^{]*)\\) \\{").matcher(code);
        while (loops.find()) must(loops.group(2).matches(".*(<|>|<=|>=) .*"), "a bound in " + loops.group());
        methodLengths(code);
    }

    private static void methodLengths(String code) {
        String[] lines = code.split("\n");
        int from = -1;
        String indent = "";
        for (int i = 0; i < lines.length; i++) {
            Matcher m = Pattern.compile("^(    |        )(?! )[\\w\\[\\] ]+\\([^;]*\\) \\{$").matcher(lines[i]);
            if (from < 0 && m.find()) {
                from = i;
                indent = m.group(1);
            } else if (from >= 0 && lines[i].equals(indent + "}")) {
                must(i - from < 60, "the length of " + lines[from].trim());
                from = -1;
            }
        }
    }

    /** 512 dear calls on one object: what they make must be far below 600,000 objects, 7.3 million elements. */
    private static void room() {
        com.sun.management.ThreadMXBean bean = (com.sun.management.ThreadMXBean) ManagementFactory.getThreadMXBean();
        long id = Thread.currentThread().getId();
        dear();
        long ahead = bean.getThreadAllocatedBytes(id);
        dear();
        long made = bean.getThreadAllocatedBytes(id) - ahead;
        System.out.println("512 dear calls make " + made + " bytes");
        must(made < 1_000_000, "the room");
    }

    private static void dear() {
        KeyKeepers x = new KeyKeepers();
        for (int d = 0; d < 12; d++) x.door(d % 9, d % 9 + 1);
        for (int p = 0; p < 8; p++) x.prisoner(9, 9, 9);
        x.image(0);
        for (int i = 0; i < 49; i++) {
            // "bars if 1=2 and 1=3 "
            x.feed(0x62617273, 0x20696620, 0x313d3220, 0x616e6420, 0x313d3320);
            x.law();
            x.back(0);
            x.image(1);
            x.rota(0);
            x.next(0);
            x.cut(0, 0);
            x.rests(0);
            x.nights(1, 100);
            x.parted(6, 3);
        }
    }

    public static void main(String[] args) throws Exception {
        face();
        source(Files.readString(Path.of("src/main/java/KeyKeepers.java"), StandardCharsets.ISO_8859_1));
        room();
        System.out.println(wrong == 0 ? "all is as the rules want it" : wrong + " things are not");
        if (wrong != 0) System.exit(1);
    }
}
