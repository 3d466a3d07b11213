import java.io.IOException;
import java.lang.reflect.Method;
import java.lang.reflect.Modifier;
import java.net.URL;
import java.net.URLClassLoader;
import java.nio.file.Files;
import java.nio.file.Path;
import java.util.Comparator;
import java.util.List;
import java.util.regex.Matcher;
import java.util.regex.Pattern;
import java.util.stream.Stream;
import javax.tools.JavaCompiler;
import javax.tools.ToolProvider;

/** README.md's example, compiled and run as it stands there: behind each call is the answer that it gives. */
public final class BearingMovesReadme {
    private static final String COMMAND = "```sh\n.ci/run\n```";
    private static final int FEWEST_ANSWERS = 40;

    /** A call, perhaps kept in a variable, and behind it the answer, perhaps with some words. */
    private static final Pattern TOLD =
        Pattern.compile("(?:int \\w+ = )?(x\\.\\w+\\([^;]*\\));\\s*// (-?\\d+|true|false)(?::.*)?");
    private static final Pattern KEPT = Pattern.compile("(int (\\w+)) = .*");

    private static int wrong = 0;
    private static int answers = 0;

    public static void main(String[] args) throws Exception {
        String readme = Files.readString(Path.of("README.md")).replace("\r\n", "\n");
        String example = example(readme);
        due("the command that runs all tests", readme.contains(COMMAND) && Files.exists(Path.of(".ci/run")));
        due("how an object is made", example.contains("new BearingMoves()"));
        everyCallIsUsed(example);
        run(program(example));
        due("answers that are told: " + answers, answers >= FEWEST_ANSWERS);
        System.out.println(wrong == 0 ? answers + " answers are README.md's" : wrong + " faults in README.md");
        if (wrong != 0) {
            System.exit(1);
        }
    }

    private static void due(String what, boolean is) {
        if (!is) {
            wrong++;
            System.out.println("README.md, not as due: " + what);
        }
    }

    private static String example(String readme) {
        int from = readme.indexOf("```java\n");
        int to = readme.indexOf("\n```", Math.max(from, 0));
        due("an example", from >= 0 && to > from);
        return from >= 0 && to > from ? readme.substring(from + "```java\n".length(), to) : "";
    }

    private static void everyCallIsUsed(String example) {
        for (Method method : BearingMoves.class.getDeclaredMethods()) {
            if (Modifier.isPublic(method.getModifiers())) {
                due("the example uses " + method.getName(), example.contains("x." + method.getName() + "("));
            }
        }
    }

    /** The example's own lines, but that each answer is handed over together with the one that is told. */
    private static String program(String example) {
        StringBuilder text = new StringBuilder();
        text.append("public final class Example {\n    public static void run() {\n");
        for (String line : example.split("\n")) {
            Matcher told = TOLD.matcher(line.trim());
            Matcher kept = KEPT.matcher(line.trim());
            if (told.matches() && kept.matches()) {
                text.append(kept.group(1)).append(" = ").append(told.group(1)).append(";\n");
                text.append(handOver(told.group(1), kept.group(2), told.group(2)));
            } else if (told.matches()) {
                text.append(handOver(told.group(1), told.group(1), told.group(2)));
            } else {
                boolean isTold = line.matches("\\S.*;\\s*// .*");
                due("a line with an answer that can be read: " + line, !isTold);
                text.append(line).append("\n");
            }
        }
        return text.append("    }\n}\n").toString();
    }

    private static String handOver(String call, String value, String answer) {
        return "BearingMovesReadme.answer(\"" + call + "\", String.valueOf(" + value + "), \"" + answer + "\");\n";
    }

    /** Called by the program that is made of the example. */
    public static void answer(String call, String got, String told) {
        answers++;
        due(call + " answers " + got + ", told is " + told, got.equals(told));
    }

    private static void run(String program) throws Exception {
        JavaCompiler compiler = ToolProvider.getSystemJavaCompiler();
        due("a Java compiler", compiler != null);
        if (compiler == null) {
            return;
        }
        Path folder = Files.createTempDirectory("readme");
        try {
            Path file = Files.writeString(folder.resolve("Example.java"), program);
            int code = compiler.run(null, null, null, "-cp", System.getProperty("java.class.path"), "-d",
                folder.toString(), file.toString());
            due("the example compiles", code == 0);
            if (code == 0) {
                call(folder);
            }
        } finally {
            remove(folder);
        }
    }

    private static void call(Path folder) throws Exception {
        ClassLoader own = BearingMovesReadme.class.getClassLoader();
        try (URLClassLoader loader = new URLClassLoader(new URL[] {folder.toUri().toURL()}, own)) {
            loader.loadClass("Example").getMethod("run").invoke(null);
        }
    }

    private static void remove(Path folder) throws IOException {
        List<Path> all;
        try (Stream<Path> paths = Files.walk(folder)) {
            all = paths.sorted(Comparator.reverseOrder()).toList();
        }
        for (Path path : all) {
            Files.delete(path);
        }
    }
}
