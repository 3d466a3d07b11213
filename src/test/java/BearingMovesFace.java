import java.lang.management.ManagementFactory;
import java.lang.reflect.Constructor;
import java.lang.reflect.Field;
import java.lang.reflect.Method;
import java.lang.reflect.Modifier;
import java.nio.file.Files;
import java.nio.file.Path;
import java.util.Arrays;
import java.util.Set;
import java.util.TreeSet;

/** The public face, what a test can see of LANGUAGE.md, and the room that calls take. */
public final class BearingMovesFace {
    private static final Set<String> FACE = new TreeSet<>(Set.of(
        "static int BAD", "static int NONE", "BearingMoves()",
        "int bearing(int, int)", "boolean held(int, int, boolean)", "boolean value(int, int, int, int, int)",
        "boolean unit(int)", "int rules()", "long sum(int, int, int, int)", "int caseOf(int, int, int)",
        "boolean locked()", "int rank(boolean)", "int direction(int, int)", "boolean joint(int, int, int, int)",
        "long gap(int, int, int)", "int day(int)", "long travel(int, int)", "int list(int, int)", "int best(int)",
        "int jack(int, int)", "int raised(int, int)", "int inspect(int)", "int count(int)"));

    /** Eight rules of six terms, in 200 signs. */
    private static final String DEAREST_RULES = "*97/89a*83/79b*7c*d*e*f;".repeat(7)
        + "*97/89a*83/79b*7c*d*e*g" + " ".repeat(9);

    private static int wrong = 0;

    public static void main(String[] args) throws Exception {
        face();
        documentsFace();
        source();
        room();
        System.out.println(wrong == 0 ? "the face is as due" : wrong + " faults");
        if (wrong != 0) {
            System.exit(1);
        }
    }

    private static void due(String what, boolean is) {
        if (!is) {
            wrong++;
            System.out.println("not as due: " + what);
        }
    }

    private static String types(Class<?>[] types) {
        return Arrays.toString(Arrays.stream(types).map(Class::getName).toArray()).replace('[', '(').replace(']', ')');
    }

    private static void face() {
        Set<String> seen = new TreeSet<>();
        Set<String> hidden = new TreeSet<>();
        for (Field f : BearingMoves.class.getDeclaredFields()) {
            if (!Modifier.isPrivate(f.getModifiers())) {
                seen.add((Modifier.isStatic(f.getModifiers()) ? "static " : "") + f.getType() + " " + f.getName());
            }
        }
        for (Constructor<?> c : BearingMoves.class.getDeclaredConstructors()) {
            due("the constructor is public", Modifier.isPublic(c.getModifiers()));
            seen.add("BearingMoves" + types(c.getParameterTypes()));
        }
        for (Method m : BearingMoves.class.getDeclaredMethods()) {
            if (Modifier.isPrivate(m.getModifiers())) {
                hidden.add(m.getName());
            } else {
                due(m.getName() + " is public", Modifier.isPublic(m.getModifiers()));
                seen.add(m.getReturnType() + " " + m.getName() + types(m.getParameterTypes()));
            }
        }
        due("the face " + FACE + ", seen is " + seen, FACE.equals(seen));
        for (String name : hidden) {
            due("no private method bears the public name " + name,
                FACE.stream().noneMatch(f -> f.contains(" " + name + "(")));
        }
        int classKind = BearingMoves.class.getModifiers();
        due("the class is public and final", Modifier.isPublic(classKind) && Modifier.isFinal(classKind));
        due("at most twelve classes", BearingMoves.class.getDeclaredClasses().length <= 11);
        for (Class<?> c : BearingMoves.class.getDeclaredClasses()) {
            due(c.getName() + " is static", Modifier.isStatic(c.getModifiers()));
            due(c.getName() + " is not public", !Modifier.isPublic(c.getModifiers()));
        }
    }

    /** "The public face": the document's own lines, less the names of the parameters, are the face that is due. */
    private static void documentsFace() throws Exception {
        Path file = Path.of("../shared/DOC.md");
        if (!Files.exists(file)) {
            return;
        }
        String document = Files.readString(file);
        String section = document.substring(document.indexOf("## The public face"), document.indexOf("## Terms"));
        Set<String> told = new TreeSet<>();
        for (String line : section.split("\n")) {
            if (line.startsWith("    public ") && line.contains("(")) {
                told.add(line.trim().replaceAll("public |;", "").replaceAll("(int|boolean) \\w+([,)])", "$1$2"));
            }
        }
        due("a face in the document", section.contains("public final class BearingMoves {") && told.size() == 21);
        due("the constants", section.contains("public static final int BAD = " + BearingMoves.BAD + ", NONE = "
            + BearingMoves.NONE + ";"));
        for (String name : new String[] {"BAD", "NONE"}) {
            due(name + " is public and final", Modifier.isPublic(BearingMoves.class.getField(name).getModifiers())
                && Modifier.isFinal(BearingMoves.class.getField(name).getModifiers()));
            told.add("static int " + name);
        }
        due("the document's face " + told + " is " + FACE, told.equals(FACE));
    }

    private static void source() throws Exception {
        String text = Files.readString(Path.of("src/main/java/BearingMoves.java"));
        String[] forbidden = {"package ", "::", "finally", "synchronized", "assert ", "Exact(", "Random", "Thread",
            "java.io", "java.nio", "java.net", "java.time", "java.math", "NullPointer", "ArrayIndex", "ClassCast",
            "NegativeArray", "ArrayStore", "Throwable", "catch (Exception"};
        for (String word : forbidden) {
            due("no '" + word + "' in the source", !text.contains(word));
        }
        due("nothing of System but arraycopy", !text.replace("System.arraycopy(", "").contains("System."));
        due("signs 0 to 255 alone", text.chars().allMatch(c -> c < 256));
    }

    /** All that 512 calls make, most of them the dearest ones, has room in 7.3 million elements of 8 bytes. */
    private static void room() {
        com.sun.management.ThreadMXBean meter =
            (com.sun.management.ThreadMXBean) ManagementFactory.getThreadMXBean();
        due("warm up", dearestRun() > 0);
        long before = meter.getCurrentThreadAllocatedBytes();
        long answers = dearestRun();
        long made = meter.getCurrentThreadAllocatedBytes() - before;
        due("512 calls have room, but made " + made + " bytes for " + answers, made < 7_300_000L * 8);
    }

    private static long dearestRun() {
        BearingMoves x = new BearingMoves();
        int calls = 0;
        for (int b = 0; b < 10; b++) {
            x.bearing(b, b * b);
            calls++;
            for (int kind = 0; kind < 8; kind++) {
                x.value(kind, b, 2, 999_983 - kind, 997 - b - kind);
                calls++;
            }
        }
        for (int i = 0; i < DEAREST_RULES.length(); i++) {
            x.unit(DEAREST_RULES.charAt(i));
            calls++;
        }
        due("the dearest rules are eight", x.rules() == 8);
        calls++;
        long answers = 0;
        for (; calls < 512; calls++) {
            answers += x.inspect(calls % 10);
        }
        return answers;
    }
}
