import java.io.IOException;
import java.lang.reflect.Modifier;
import java.net.URL;
import java.net.URLClassLoader;
import java.nio.file.Files;
import java.nio.file.Path;
import java.util.ArrayList;
import java.util.List;
import java.util.regex.Matcher;
import java.util.regex.Pattern;

/** The calls on the page README.md do what it says: each of its Java lines is compiled, called and compared. */
public final class ReadmeTest {
    private static final Path PAGE = Path.of("README.md");
    private static final Pattern BLOCK = Pattern.compile("(?s)```java\n(.*?)```");
    private static final Pattern LINE = Pattern.compile("((?:int (\\w+) = )?(.*));\\s+// (->|throws) (.*)");
    private static final String FIRST_LINE = "Nominator office = new Nominator();";

    private ReadmeTest() {
    }

    public static void main(String[] args) throws Exception {
        List<String> lines = linesOf(Files.readString(PAGE));
        Check.same("the first line of Java", lines.get(0), FIRST_LINE);
        everyCallIsShown(lines);
        StringBuilder program = new StringBuilder(FIRST_LINE).append('\n');
        for (String line : lines.subList(1, lines.size())) {
            program.append(statementsOf(line));
        }
        for (Object[] answer : answersOf(program.toString())) {
            Check.same("README.md: " + answer[0], answer[1], answer[2]);
        }
        Check.end();
    }

    private static List<String> linesOf(String page) {
        List<String> lines = new ArrayList<>();
        Matcher blocks = BLOCK.matcher(page);
        while (blocks.find()) {
            lines.addAll(blocks.group(1).lines().toList());
        }
        return lines;
    }

    private static void everyCallIsShown(List<String> lines) {
        String all = String.join("\n", lines);
        for (var method : Nominator.class.getDeclaredMethods()) {
            if (Modifier.isPublic(method.getModifiers())) {
                Check.same(method.getName() + " is shown", all.contains("office." + method.getName() + "("), true);
            }
        }
    }

    /** What calls the line and puts the call, what came of it and what is due into a list. */
    private static String statementsOf(String line) {
        Matcher matcher = LINE.matcher(line);
        if (!matcher.matches()) {
            Check.wrong("README.md: a line says neither what it answers nor what it throws: " + line);
            return "";
        }
        String call = matcher.group(3);
        String text = "\"" + call + "\"";
        if (matcher.group(4).equals("throws")) {
            return "try { out.add(new Object[] {" + text + ", " + call + ", \"" + matcher.group(5) + "\"}); }\n"
                    + "catch (RuntimeException e) { out.add(new Object[] {" + text
                    + ", e.getClass().getSimpleName(), \"" + matcher.group(5) + "\"}); }\n";
        }
        String name = matcher.group(2);
        return (name == null ? "" : matcher.group(1) + ";\n") + "out.add(new Object[] {" + text + ", "
                + (name == null ? call : name) + ", " + matcher.group(5) + "});\n";
    }

    private static List<Object[]> answersOf(String program) throws Exception {
        Path directory = Files.createTempDirectory("readme");
        List<Object[]> answers = new ArrayList<>();
        try (URLClassLoader loader = new URLClassLoader(new URL[] {directory.toUri().toURL()})) {
            if (compiles(directory, program)) {
                loader.loadClass("ReadmeCalls").getMethod("call", List.class).invoke(null, answers);
            } else {
                Check.wrong("README.md: its Java does not compile");
            }
        } finally {
            deleteAll(directory);
        }
        return answers;
    }

    /** By the same javac that .ci/run calls. */
    private static boolean compiles(Path directory, String program) throws Exception {
        Path source = directory.resolve("ReadmeCalls.java");
        Files.writeString(source, "public final class ReadmeCalls {\n"
                + "public static void call(java.util.List<Object[]> out) {\n" + program + "}\n}\n");
        return new ProcessBuilder("javac", "-encoding", "UTF-8", "-cp", System.getProperty("java.class.path"), "-d",
                directory.toString(), source.toString()).inheritIO().start().waitFor() == 0;
    }

    private static void deleteAll(Path directory) throws IOException {
        try (var files = Files.list(directory)) {
            for (Path file : files.toList()) {
                Files.delete(file);
            }
        }
        Files.delete(directory);
    }
}
