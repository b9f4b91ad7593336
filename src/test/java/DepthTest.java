import java.io.IOException;
import java.nio.file.Files;
import java.nio.file.Path;
import java.util.HashMap;
import java.util.HashSet;
import java.util.Map;
import java.util.Set;
import java.util.TreeSet;
import java.util.regex.Matcher;
import java.util.regex.Pattern;

/**
 * Rules 8 and 11 of LANGUAGE.md, from the source alone: no method comes to call itself, and calls go at
 * most eight deep, one of the library's counted as one deep. Methods of one name are taken as one.
 */
public final class DepthTest {
    private static final int DEEPEST = 8;
    private static final Pattern BEGUN = Pattern.compile("((?: {4}){1,2})(?:\\w[\\w\\[\\]]* )*(\\w+)\\(.*\\) \\{");
    private static final Pattern CALLED = Pattern.compile("\\b(\\w+)\\(");
    private static final Set<String> NO_CALLS = Set.of("if", "for", "while", "switch", "return");

    private final Map<String, Set<String>> callsOf = new HashMap<>();
    private final Set<String> open = new HashSet<>();

    /** What each method calls, by name; a method ends at the brace that stands as far in as it does. */
    private void gather(String[] lines) {
        String ends = "";
        String name = "";
        for (String line : lines) {
            Matcher begun = BEGUN.matcher(line);
            if (name.isEmpty() && begun.matches()) {
                ends = begun.group(1) + "}";
                name = begun.group(2);
                callsOf.putIfAbsent(name, new TreeSet<>());
            } else if (line.equals(ends)) {
                name = "";
            } else if (!name.isEmpty()) {
                gatherCalls(name, line.replaceAll("//.*", ""));
            }
        }
    }

    private void gatherCalls(String name, String line) {
        Matcher called = CALLED.matcher(line);
        while (called.find()) {
            if (!NO_CALLS.contains(called.group(1))) {
                callsOf.get(name).add(called.group(1));
            }
        }
    }

    private int depthOf(String name) {
        Check.due("calls of itself by " + name, open.contains(name) ? 1 : 0, 0);
        if (!callsOf.containsKey(name) || !open.add(name)) {
            return 1;
        }
        int deepest = 0;
        for (String called : callsOf.get(name)) {
            deepest = Math.max(deepest, depthOf(called));
        }
        open.remove(name);
        return deepest + 1;
    }

    /** The look itself is looked at: a source that breaks the rules must not pass it. */
    private static void looksWell() {
        DepthTest look = new DepthTest();
        look.gather(new String[] {"    public int a(int n) {", "        return b(n) + Math.max(n, 1);", "    }",
            "        private static long[] b(int n) {", "            // d(n) is not called", "            c();",
            "        }", "        C() {", "        }", "        void c() {", "        }"});
        Check.same("what is called", new java.util.TreeMap<>(look.callsOf).toString(), "{C=[], a=[b, max], b=[c], c=[]}");
        Check.due("how deep", look.depthOf("a"), 3);
    }

    public static void main(String[] args) throws IOException {
        looksWell();
        DepthTest look = new DepthTest();
        look.gather(Files.readString(Path.of("src/main/java/HorseSigns.java")).split("\n"));
        Check.due("the face is found", look.callsOf.keySet().containsAll(Set.of("feed", "count", "Square")) ? 1 : 0, 1);
        for (String name : new TreeSet<>(look.callsOf.keySet())) {
            int depth = look.depthOf(name);
            Check.due(name + " goes " + depth + " deep: too deep", depth <= DEEPEST ? 0 : 1, 0);
            if (args.length > 0) {
                System.out.println(depth + " " + name + " " + look.callsOf.get(name));
            }
        }
        Check.finish("DepthTest");
    }
}
