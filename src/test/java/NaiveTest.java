import java.lang.reflect.Method;
import java.util.ArrayList;
import java.util.List;
import java.util.Random;

/** Runs of calls by fixed seeds, each answer compared with that of Naive. */
public final class NaiveTest {
    private static final int RUNS = 600, CALLS = 400;
    private static final String[] CHANGES = {"alter", "rely", "cast", "send", "burn", "days", "see", "see", "forget",
        "keep", "back", "sheet", "lay", "lay", "read"};
    /** Each with the greatest number for each of its places; * is any number. */
    private static final String[] QUESTIONS = {"fault", "rule 6", "rider 3 5", "report 7 3", "trust 3", "told 3 3 99",
        "runs 60 3", "runs 9 3", "ahead 3 60 1", "ahead 3 9 1", "believed 3 99", "believed 3 9", "agrees 3", "pose 3 3",
        "heavy 3 3", "need", "liar 60 1", "liar 9 1", "lose 60 1", "lose 9 1", "swap 60 1", "swap 9 1", "gain 3 3 3 99",
        "gain 3 3 3 9", "kind 3 60 1", "kind 3 9 1", "luck 10 3 3 99 1", "luck 10 3 3 9 1", "mean 10 20 1", "kinds 3",
        "ups 3", "ask 3 1", "drift * 60 1", "drift * 9 1", "torn", "count 5"};
    private static final String[] KINDS = {"plain", "marshal", "usurper", "quiet"};

    private final Random random;
    private final HorseSigns real = new HorseSigns();
    private final Naive naive = new Naive();
    private final List<String> done = new ArrayList<>();
    private final int run;
    private boolean differs;

    private NaiveTest(int run) {
        this.run = run;
        random = new Random(run);
    }

    private static final List<Method> FACE = new ArrayList<>();

    static {
        for (Method m : HorseSigns.class.getDeclaredMethods()) {
            if (java.lang.reflect.Modifier.isPublic(m.getModifiers())) {
                FACE.add(m);
            }
        }
        FACE.sort((a, b) -> a.getName().compareTo(b.getName()));
    }

    private static Method named(String name) {
        return FACE.stream().filter(m -> m.getName().equals(name)).findFirst().orElseThrow();
    }

    private void call(String name, int... args) throws ReflectiveOperationException {
        Method m = named(name);
        Object[] boxed = new Object[args.length];
        StringBuilder told = new StringBuilder(name).append('(');
        for (int i = 0; i < args.length; i++) {
            boxed[i] = args[i];
            told.append(i == 0 ? "" : ", ").append(args[i]);
        }
        done.add(told.append(')').toString());
        long got = ((Number) m.invoke(real, boxed)).longValue();
        Method n = Naive.class.getDeclaredMethod(name, m.getParameterTypes());
        long due = ((Number) n.invoke(naive, boxed)).longValue();
        Check.due("run " + run + ", call " + done.size() + ", " + told, got, due);
        differs = differs || got != due;
    }

    private int any(int most) {
        return random.nextInt(most + 1);
    }

    private int number() {
        switch (any(9)) {
            case 0: return random.nextInt();
            case 1: return any(130) - 5;
            case 2: return any(64) - 2;
            case 3: return any(22);
            default: return any(6) - (any(5) == 0 ? 1 : 0);
        }
    }

    private String onLine(int riders) {
        return "on " + any(any(3) > 0 ? 9 : 99) + " " + any(3) + " " + any(riders - 1) + " " + any(3) + ";";
    }

    private String goodText() {
        StringBuilder text = new StringBuilder();
        int riders = 1 + any(4);
        for (int i = 0; i < riders; i++) {
            text.append(KINDS[any(3)]).append(' ').append(any(15)).append(' ');
            text.append(1 + any(any(1) == 0 ? 20 : 98)).append(';');
        }
        for (int r = 0; r < 4; r++) {
            text.append(any(1) == 0 ? "trust " + r + " " + any(9) + ";" : "");
        }
        text.append(any(1) == 0 ? "bears " + (1 + any(98)) + ";" : "");
        for (int i = any(8); i > 0 && text.length() < 145; i--) {
            text.append(onLine(riders));
        }
        return text.toString();
    }

    /** Some signs changed or more, a line twice or too many: most of the faults come so. */
    private String spoilt(String good) {
        StringBuilder text = new StringBuilder(good);
        if (any(2) == 0) {
            String[] more = {"bears 9;", "trust 1 1;", "on 1 1 4 1;", "plain 1 1;plain 1 1;plain 1 1;", onLine(1)};
            text.insert(text.indexOf(";") + 1, more[any(more.length - 1)]);
        }
        String other = " ;09azonplaintrust$\t\r1";
        for (int i = any(3); i > 0; i--) {
            int at = any(text.length() - 1);
            char c = other.charAt(any(other.length() - 1));
            if (any(1) == 0) {
                text.setCharAt(at, c);
            } else {
                text.insert(at, c);
            }
        }
        return text.toString();
    }

    private String text() {
        String text = any(3) == 0 ? spoilt(goodText()) : goodText();
        return text.length() > 160 ? text.substring(0, 160) : text;
    }

    private void tell() throws ReflectiveOperationException {
        call("end", 0);
        String text = text();
        for (int i = 0; i < text.length(); i++) {
            call("feed", text.charAt(i));
        }
        call("text");
        call("fault");
    }

    /** A change by numbers that mostly are as they should be. */
    private void change() throws ReflectiveOperationException {
        String name = CHANGES[any(CHANGES.length - 1)];
        switch (name) {
            case "alter":
                int what = any(2);
                call(name, any(4), what, any(new int[] {3, 15, 99}[what]));
                break;
            case "rely": call(name, any(3), any(9)); break;
            case "cast": call(name, any(any(1) == 0 ? 30 : 99)); break;
            case "send": call(name, any(any(1) == 0 ? 9 : 99), any(3), any(4), any(3)); break;
            case "burn": call(name, any(1) == 0 ? any(8) : 8); break;
            case "days": call(name, any(any(3) > 0 ? 3 : 30)); break;
            case "see":
                int h = any(4);
                int n = any(20);
                call(name, n, h, any(5) == 0 || !naive.hasRider(h) ? any(15) : naive.ahead(h, n, 0));
                break;
            case "forget": call(name, any(6)); break;
            case "keep":
            case "back": call(name, any(1)); break;
            case "sheet": call(name, any(3), any(2), any(42) - 1); break;
            case "lay": call(name, any(3), any(20), any(any(8) == 0 ? 99999 : 3)); break;
            default: call(name, any(3), any(2), any(9) - 1, any(5)); break;
        }
    }

    /** A question by numbers that mostly are as they should be. */
    private void ask() throws ReflectiveOperationException {
        String[] words = QUESTIONS[any(QUESTIONS.length - 1)].split(" ");
        int[] args = new int[words.length - 1];
        for (int i = 0; i < args.length; i++) {
            args[i] = words[i + 1].equals("*") ? random.nextInt() : any(Integer.parseInt(words[i + 1]));
        }
        if (args.length > 0 && any(30) == 0) {
            args[any(args.length - 1)] = number();
        }
        call(words[0], args);
    }

    /** Any call by any numbers. */
    private void anything() throws ReflectiveOperationException {
        Method m = FACE.get(any(FACE.size() - 1));
        int[] args = new int[m.getParameterCount()];
        for (int i = 0; i < args.length; i++) {
            args[i] = number();
        }
        call(m.getName(), args);
    }

    private void go() throws ReflectiveOperationException {
        while (done.size() < CALLS && !differs) {
            int way = any(150);
            // A text has 163 calls at most, and an object 512.
            if (way == 0 && done.size() < 340 || done.isEmpty()) {
                tell();
            } else if (way < 40) {
                change();
            } else if (way < 43) {
                anything();
            } else {
                ask();
            }
        }
        if (differs) {
            System.out.println("  the run: " + done);
        }
    }

    public static void main(String[] args) throws ReflectiveOperationException {
        int runs = args.length > 0 ? Integer.parseInt(args[0]) : RUNS;
        for (int run = 0; run < runs; run++) {
            new NaiveTest(run).go();
        }
        Check.finish("NaiveTest");
    }
}
