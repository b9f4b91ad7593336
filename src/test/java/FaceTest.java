import java.io.IOException;
import java.lang.reflect.Constructor;
import java.lang.reflect.Field;
import java.lang.reflect.Method;
import java.lang.reflect.Modifier;
import java.nio.file.Files;
import java.nio.file.Path;
import java.util.ArrayList;
import java.util.List;
import java.util.Set;
import java.util.TreeSet;
import java.util.regex.Matcher;
import java.util.regex.Pattern;

/** The face of the document, those rules of LANGUAGE.md that a look can find, and the room that calls take. */
public final class FaceTest {
    private static final String[] FACE = {"feed 1", "end 1", "text 0", "fault 0", "rule 1", "rider 2", "report 2",
        "trust 1", "told 3", "alter 3", "rely 2", "cast 1", "send 4", "burn 1", "days 1", "runs 2", "ahead 3",
        "believed 2", "agrees 1", "pose 2", "heavy 2", "need 0", "liar 2", "lose 2", "swap 2", "gain 4", "kind 3",
        "luck 5", "mean 3", "see 3", "forget 1", "kinds 1", "ups 1", "ask 2", "drift 3", "keep 1", "back 1", "sheet 3",
        "lay 3", "read 4", "torn 0", "count 1"};

    private static void holds(String rule, boolean kept) {
        Check.due(rule, kept ? 1 : 0, 1);
    }

    private static Set<String> names() {
        Set<String> names = new TreeSet<>();
        for (String f : FACE) {
            names.add(f.split(" ")[0]);
        }
        return names;
    }

    private static void face() {
        Set<String> due = new TreeSet<>(List.of(FACE));
        Set<String> found = new TreeSet<>();
        for (Method m : HorseSigns.class.getDeclaredMethods()) {
            if (Modifier.isPrivate(m.getModifiers())) {
                holds("no private method is called " + m.getName(), !names().contains(m.getName()));
                continue;
            }
            found.add(m.getName() + " " + m.getParameterCount());
            boolean isLong = m.getName().equals("luck") || m.getName().equals("mean");
            holds(m + " answers as told", m.getReturnType() == (isLong ? long.class : int.class));
            holds(m + " is public", Modifier.isPublic(m.getModifiers()) && !Modifier.isStatic(m.getModifiers()));
            for (Class<?> p : m.getParameterTypes()) {
                holds(m + " takes ints", p == int.class);
            }
        }
        holds("the methods are " + found, found.equals(due));
        int modifiers = HorseSigns.class.getModifiers();
        holds("public and final", Modifier.isPublic(modifiers) && Modifier.isFinal(modifiers));
        Constructor<?>[] made = HorseSigns.class.getDeclaredConstructors();
        holds("one constructor", made.length == 1 && made[0].getParameterCount() == 0
                && Modifier.isPublic(made[0].getModifiers()));
    }

    private static void fields() throws IllegalAccessException {
        Set<String> constants = new TreeSet<>();
        for (Field f : HorseSigns.class.getDeclaredFields()) {
            if (!Modifier.isPrivate(f.getModifiers())) {
                constants.add(f.getName() + " " + f.getInt(null));
            }
        }
        holds("the constants are " + constants, constants.equals(Set.of("BAD -1", "STATE -2", "FULL -3", "NONE -4")));
        List<Class<?>> classes = new ArrayList<>(List.of(HorseSigns.class.getDeclaredClasses()));
        for (Class<?> c : classes) {
            holds(c + " is static", Modifier.isStatic(c.getModifiers()));
            for (Method m : c.getDeclaredMethods()) {
                holds(m + " is called otherwise than the face's", !names().contains(m.getName()));
            }
        }
        classes.add(HorseSigns.class);
        holds("few classes", classes.size() <= 12);
        for (Class<?> c : classes) {
            int own = 0;
            for (Field f : c.getDeclaredFields()) {
                boolean isStatic = Modifier.isStatic(f.getModifiers());
                holds(f + ", if static, is final and an int", !isStatic
                        || Modifier.isFinal(f.getModifiers()) && f.getType() == int.class);
                own += isStatic ? 0 : 1;
            }
            holds(c + " has few fields", own <= 20);
            for (Method m : c.getDeclaredMethods()) {
                holds(m + " takes seven at most", m.getParameterCount() <= 7);
            }
        }
    }

    private static void words() throws IOException {
        String source = Files.readString(Path.of("src/main/java/HorseSigns.java"));
        String code = source.replaceAll("(?s)/\\*.*?\\*/|//[^\n]*", "");
        String[] never = {"throw", "throws", "try", "catch", "finally", "synchronized", "assert", "package", "Exact",
            "hashCode", "toString", "Object", "double", "float", "protected", "native", "volatile", "transient",
            "Exception", "Error", "System\\.(?!arraycopy)\\w+"};
        for (String word : never) {
            holds("the word " + word, !Pattern.compile("\\b" + word + "\\b").matcher(code).find());
        }
        holds("no lambda, no method reference", !code.contains("->") && !code.contains("::"));
        Matcher imports = Pattern.compile("import ([^;]+);").matcher(code);
        while (imports.find()) {
            holds("import " + imports.group(1), imports.group(1).equals("java.util.Arrays"));
        }
        shortMethods(source);
    }

    private static void shortMethods(String source) {
        int begun = 0;
        String[] lines = source.split("\n");
        for (int i = 0; i < lines.length; i++) {
            if (lines[i].matches(" {4}( {4})?[a-zA-Z].*\\) \\{")) {
                begun = i;
            }
            if (lines[i].matches(" {4}( {4})?\\}")) {
                holds("the method that ends in line " + (i + 1) + " is short", i - begun <= 60 || lines[i].length() == 5);
            }
        }
    }

    /** Calls make no objects: only the constructor does. */
    private static void room() {
        HorseSigns x = Check.told("plain 0 9;plain 3 9;marshal 3 9;quiet 1 9;usurper 1 9;on 1 0 0 3;on 2 1 1 3;"
                + "on 3 2 2 3;on 4 3 3 0;on 5 0 4 0;on 6 1 0 1;on 7 2 0 0;on 9 3 0 3;");
        dearest(x);
        com.sun.management.ThreadMXBean bean =
                (com.sun.management.ThreadMXBean) java.lang.management.ManagementFactory.getThreadMXBean();
        long before = bean.getCurrentThreadAllocatedBytes();
        for (int i = 0; i < 20; i++) {
            dearest(x);
        }
        long made = bean.getCurrentThreadAllocatedBytes() - before;
        holds("calls make no objects (" + made + " bytes)", made < 10000);
    }

    private static void dearest(HorseSigns x) {
        x.runs(60, 0);
        x.agrees(0);
        x.liar(60, 0);
        x.lose(60, 0);
        x.swap(60, 0);
        x.kind(0, 60, 0);
        x.luck(3, 0, 3, 99, 0);
        x.mean(3, 20, 0);
        x.see(20, 0, 3);
        x.kinds(0);
        x.ups(0);
        x.ask(0, 0);
        x.drift(1, 60, 0);
        x.keep(0);
        x.back(0);
        x.sheet(0, 2, 40);
        x.lay(0, 0, 1);
        x.read(0, 2, 0, 10);
        x.feed('$');
        x.text();
    }

    public static void main(String[] args) throws IllegalAccessException, IOException {
        face();
        fields();
        words();
        room();
        Check.finish("FaceTest");
    }
}
