import java.io.IOException;
import java.lang.reflect.Method;
import java.lang.reflect.Modifier;
import java.net.URL;
import java.net.URLClassLoader;
import java.nio.file.Files;
import java.nio.file.Path;
import java.util.ArrayList;
import java.util.Comparator;
import java.util.List;
import java.util.regex.Matcher;
import java.util.regex.Pattern;
import java.util.stream.Stream;
import javax.tools.JavaCompiler;
import javax.tools.ToolProvider;

/**
 * The calls that README.md shows: its blocks of Java are put into one class, in their order, compiled and run. A
 * line is a statement, and what follows // is its answer, with a colon and words behind it or without. A block whose
 * first line is a static method is that method. Each method of the face is shown at least once.
 */
public final class ReadmeTest {
    private static final Pattern LINE = Pattern.compile("(?:(\\w+) (\\w+) = )?(.*?);\\s*(?://\\s*(.*))?");
    private static final Pattern ANSWER = Pattern.compile("(-?\\d+|true|false)(?::\\s.+)?");

    private final StringBuilder methods = new StringBuilder();
    private final StringBuilder calls = new StringBuilder();
    private final List<String> wrong = new ArrayList<>();
    private int shown;

    private ReadmeTest() { }

    private void read(List<String> lines) {
        boolean inside = false;
        boolean method = false;
        for (int i = 0; i < lines.size(); i++) {
            String line = lines.get(i);
            if (line.startsWith("```")) {
                inside = !inside && line.equals("```java");
                method = inside && i + 1 < lines.size() && lines.get(i + 1).startsWith("static ");
            } else if (method) {
                methods.append(line).append('\n');
            } else if (inside && !line.isBlank()) {
                readLine(i + 1, line.trim());
            }
        }
    }

    private void readLine(int number, String line) {
        Matcher m = LINE.matcher(line);
        if (!m.matches()) {
            wrong.add("line " + number + " is no statement: " + line);
            return;
        }
        String call = m.group(3);
        boolean made = call.startsWith("new ");
        Matcher answer = ANSWER.matcher(m.group(4) == null ? "" : m.group(4));
        if (made == answer.matches()) {
            wrong.add("line " + number + (made ? " can't have an answer: " : " says no answer: ") + line);
            return;
        }
        String name = m.group(2);
        if (name != null) {
            calls.append(m.group(1)).append(' ').append(name).append(" = ").append(call).append(";\n");
        }
        if (!made) {
            shown++;
            String quoted = call.replace("\\", "\\\\").replace("\"", "\\\"");
            calls.append("due(").append(number).append(", \"").append(quoted).append("\", ")
                .append(name == null ? call : name).append(", ").append(answer.group(1)).append(");\n");
        }
    }

    private String program() {
        return "import java.util.List;\n"
            + "public final class ReadmeCalls {\n"
            + "static List<String> wrong;\n"
            + "static void due(int line, String call, Object got, Object want) {\n"
            + "if (!got.toString().equals(want.toString()) || got instanceof Boolean != want instanceof Boolean) {\n"
            + "wrong.add(\"line \" + line + \": \" + call + \" answered \" + got + \", README.md says \" + want); } }\n"
            + methods
            + "public static void run(List<String> found) {\nwrong = found;\n" + calls + "} }\n";
    }

    private void everyCallIsShown() {
        for (Method m : ElevenBullocks.class.getDeclaredMethods()) {
            boolean ofTheFace = Modifier.isPublic(m.getModifiers());
            if (ofTheFace && !Pattern.compile("\\bx\\." + m.getName() + "\\(").matcher(methods + "" + calls).find()) {
                wrong.add("no call of " + m.getName() + " is shown");
            }
        }
    }

    private void run(Path out) throws Exception {
        Path source = out.resolve("ReadmeCalls.java");
        Files.writeString(source, program());
        JavaCompiler compiler = ToolProvider.getSystemJavaCompiler();
        String path = System.getProperty("java.class.path");
        if (compiler == null || compiler.run(null, null, null, "-cp", path, "-d", out + "", source + "") != 0) {
            wrong.add("what README.md shows does not compile");
            return;
        }
        try (URLClassLoader loader = new URLClassLoader(new URL[] {out.toUri().toURL()})) {
            loader.loadClass("ReadmeCalls").getMethod("run", List.class).invoke(null, wrong);
        }
    }

    private static void remove(Path directory) throws IOException {
        try (Stream<Path> all = Files.walk(directory)) {
            for (Path path : all.sorted(Comparator.reverseOrder()).toList()) {
                Files.delete(path);
            }
        }
    }

    public static void main(String[] args) throws Exception {
        ReadmeTest test = new ReadmeTest();
        test.read(Files.readAllLines(Path.of("README.md")));
        test.everyCallIsShown();
        Path out = Files.createTempDirectory("readme");
        try {
            test.run(out);
        } finally {
            remove(out);
        }
        test.wrong.forEach(System.out::println);
        String all = test.shown + " calls of README.md answer what it says";
        System.out.println(test.wrong.isEmpty() ? all : "README.md is wrong");
        if (!test.wrong.isEmpty()) {
            System.exit(1);
        }
    }
}
