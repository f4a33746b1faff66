import java.io.IOException;
import java.net.URL;
import java.net.URLClassLoader;
import java.nio.file.Files;
import java.nio.file.Path;
import java.util.ArrayList;
import java.util.Comparator;
import java.util.List;
import java.util.regex.Matcher;
import java.util.regex.Pattern;
import java.util.stream.Stream;

/**
 * The examples of README.md answer what stands behind them. All of them become one program, in which each call's
 * answer is compared with the number at the head of its comment; a call without such a number does not do.
 */
public final class ReadmeTests {
    private static final Pattern BLOCK = Pattern.compile("(?ms)^```java\n(.*?)^```$");
    private static final Pattern CALL = Pattern.compile("(int \\w+ = )?((?:routes\\.\\w+|tell)\\(.*\\)); *// *(-?\\d+)\\b.*");
    private static final Pattern FREE = Pattern.compile("//.*|ApprovalRoutes routes = new ApprovalRoutes\\(\\);");
    private static int calls = 0;
    private static int wrong = 0;

    private ReadmeTests() {}

    /** Called by the program that is made of the examples. */
    public static void due(String call, long got, long want) {
        calls++;
        if (got != want) {
            wrong("it shows " + call + " with " + want + ", the answer is " + got);
        }
    }

    private static void wrong(String what) {
        wrong++;
        System.out.println("README.md: " + what);
    }

    public static void main(String[] args) throws Exception {
        Path root = Path.of(System.getProperty("project.root", "."));
        Path folder = Files.createTempDirectory("readme");
        try {
            run(folder, programOf(Files.readString(root.resolve("README.md"))));
        } finally {
            remove(folder);
        }
        if (calls < 20) {
            wrong("only " + calls + " calls were found");
        }
        System.out.println(calls + " calls of README.md: " + (wrong == 0 ? "all as shown" : wrong + " faults"));
        if (wrong != 0) {
            System.exit(1);
        }
    }

    private static String programOf(String readme) {
        StringBuilder functions = new StringBuilder();
        StringBuilder examples = new StringBuilder();
        Matcher block = BLOCK.matcher(readme);
        while (block.find()) {
            if (block.group(1).startsWith("static ")) {
                functions.append(block.group(1));
            } else {
                statementsOf(block.group(1)).forEach(statement -> examples.append(lineFor(statement)));
            }
        }
        return "public final class Readme {\n" + functions + "public static void run() {\n" + examples + "}\n}\n";
    }

    /** A line that is set in goes on from the one ahead of it. */
    private static List<String> statementsOf(String block) {
        List<String> statements = new ArrayList<>();
        for (String line : block.split("\n")) {
            if (line.startsWith(" ") && !statements.isEmpty()) {
                statements.set(statements.size() - 1, statements.get(statements.size() - 1) + " " + line.trim());
            } else if (!line.isBlank()) {
                statements.add(line);
            }
        }
        return statements;
    }

    private static String lineFor(String statement) {
        Matcher call = CALL.matcher(statement);
        if (!call.matches()) {
            if (!FREE.matcher(statement).matches()) {
                wrong("no answer is shown for " + statement);
            }
            return statement + "\n";
        }
        String quoted = call.group(2).replace("\\", "\\\\").replace("\"", "\\\"");
        String check = "ReadmeTests.due(\"" + quoted + "\", " + call.group(2) + ", " + call.group(3) + ");\n";
        if (call.group(1) == null) {
            return check;
        }
        String name = call.group(1).replaceAll("int | = ", "");
        return call.group(1) + call.group(2) + ";\n" + check.replace(", " + call.group(2) + ", ", ", " + name + ", ");
    }

    private static void run(Path folder, String program) throws Exception {
        Path source = Files.writeString(folder.resolve("Readme.java"), program);
        Process javac = new ProcessBuilder("javac", "-cp", System.getProperty("java.class.path"), "-d", folder.toString(), source.toString())
                .inheritIO().start();
        if (javac.waitFor() != 0) {
            wrong("its examples do not compile");
            return;
        }
        try (URLClassLoader loader = new URLClassLoader(new URL[] {folder.toUri().toURL()})) {
            loader.loadClass("Readme").getMethod("run").invoke(null);
        }
    }

    private static void remove(Path folder) throws IOException {
        try (Stream<Path> files = Files.walk(folder)) {
            for (Path file : files.sorted(Comparator.reverseOrder()).toList()) {
                Files.delete(file);
            }
        }
    }
}
