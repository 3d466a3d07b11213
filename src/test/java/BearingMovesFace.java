import java.lang.management.ManagementFactory;
import java.lang.reflect.Constructor;
import java.lang.reflect.Field;
import java.lang.reflect.Method;
import java.lang.reflect.Modifier;
import java.nio.file.Files;
import java.nio.file.Path;
import java.util.Arrays;
import java.util.Set;
import java.util.TreeSet;

/** The public face, what a test can see of LANGUAGE.md, and the room that calls take. */
public final class BearingMovesFace {
    private static final Set<String> FACE = new TreeSet<>(Set.of(
        "static int BAD", "static int NONE", "BearingMoves()",
        "int bearing(int, int)", "boolean held(int, int, boolean)", "boolean value(int, int, int, int, int)",
        "boolean unit(int)", "int rules()", "long sum(int, int, int, int)", "int caseOf(int, int, int)",
        "boolean locked()", "int rank(boolean)", "int direction(int, int)", "boolean joint(int, int, int, int)",
        "long gap(int, int, int)", "int day(int)", "long travel(int, int)", "int list(int, int)", "int best(int)",
        "int jack(int, int)", "int raised(int, int)", "int inspect(int)", "int count(int)"));

    private static int wrong = 0;

    public static void main(String[] args) throws Exception {
        face();
        source();
        room();
        System.out.println(wrong == 0 ? "the face is as due" : wrong + " faults");
        if (wrong != 0) {
            System.exit(1);
        }
    }

    private static void due(String what, boolean is) {
        if (!is) {
            wrong++;
            System.out.println("not as due: " + what);
        }
    }

    private static String types(Class<?>[] types) {
        return Arrays.toString(Arrays.stream(types).map(Class::getName).toArray()).replace('[', '(').replace(']', ')');
    }

    private static void face() {
        Set<String> seen = new TreeSet<>();
        Set<String> hidden = new TreeSet<>();
        for (Field f : BearingMoves.class.getDeclaredFields()) {
            if (!Modifier.isPrivate(f.getModifiers())) {
                seen.add((Modifier.isStatic(f.getModifiers()) ? "static " : "") + f.getType() + " " + f.getName());
            }
        }
        for (Constructor<?> c : BearingMoves.class.getDeclaredConstructors()) {
            seen.add("BearingMoves" + types(c.getParameterTypes()));
        }
        for (Method m : BearingMoves.class.getDeclaredMethods()) {
            if (Modifier.isPrivate(m.getModifiers())) {
                hidden.add(m.getName());
            } else {
                due(m.getName() + " is public", Modifier.isPublic(m.getModifiers()));
                seen.add(m.getReturnType() + " " + m.getName() + types(m.getParameterTypes()));
            }
        }
        due("the face " + FACE + ", seen is " + seen, FACE.equals(seen));
        for (String name : hidden) {
            due("no private method bears the public name " + name,
                FACE.stream().noneMatch(f -> f.contains(" " + name + "(")));
        }
        int classKind = BearingMoves.class.getModifiers();
        due("the class is public and final", Modifier.isPublic(classKind) && Modifier.isFinal(classKind));
        due("at most twelve classes", BearingMoves.class.getDeclaredClasses().length <= 11);
        for (Class<?> c : BearingMoves.class.getDeclaredClasses()) {
            due(c.getName() + " is static", Modifier.isStatic(c.getModifiers()));
            due(c.getName() + " is not public", !Modifier.isPublic(c.getModifiers()));
        }
    }

    private static void source() throws Exception {
        String text = Files.readString(Path.of("src/main/java/BearingMoves.java"));
        String[] forbidden = {"import ", "package ", "->", "::", "catch", "finally", "synchronized", "assert ",
            "System.", "Exact(", "Random", "java.", "Thread", "double", "float"};
        for (String word : forbidden) {
            due("no '" + word + "' in the source", !text.contains(word));
        }
        due("ASCII alone", text.chars().allMatch(c -> c < 127));
    }

    /** The dearest calls must not make objects: all calls of a run live in one room. */
    private static void room() {
        com.sun.management.ThreadMXBean meter =
            (com.sun.management.ThreadMXBean) ManagementFactory.getThreadMXBean();
        BearingMoves x = new BearingMoves();
        for (int i = 0; i < 10; i++) {
            x.bearing(i, i * i);
            x.held(i, 0, true);
            x.held(i, 1, true);
            for (int kind = 0; kind < 8; kind++) {
                x.value(kind, i, kind % 3, 999_983, 997 - i - kind);
            }
        }
        String text = "*999/997a*998/991b*997/983c*996/977d*995/971e*994/967f;-7a+b";
        due("warm up", useAll(x, text) != 0);
        long before = meter.getCurrentThreadAllocatedBytes();
        long answers = useAll(x, text);
        long made = meter.getCurrentThreadAllocatedBytes() - before;
        due("calls make no objects, but made " + made + " bytes for " + answers, made < 4_096);
    }

    private static long useAll(BearingMoves x, String text) {
        long answers = 0;
        for (int i = 0; i < 20; i++) {
            for (int j = 0; j < text.length(); j++) {
                answers += x.unit(text.charAt(j)) ? 1 : 0;
            }
            answers += x.rules() + x.sum(i % 10, i % 3, i % 3, 0) % 1_000 + x.caseOf(i % 10, i % 3, i % 2);
            answers += x.rank(true) + (x.locked() ? 1 : 0) + x.direction(i % 10, 0) + x.gap(i % 10, i, 0);
            answers += x.day(i) + x.travel(i % 10, 1) + x.list(i, i) + x.best(i % 10) + x.jack(10_000, 1);
            answers += x.raised(i, i % 10) + x.inspect(i % 10) + x.count(5);
        }
        return answers;
    }
}
