import java.io.ByteArrayOutputStream;
import java.io.IOException;
import java.io.PrintStream;
import java.net.URL;
import java.net.URLClassLoader;
import java.nio.charset.StandardCharsets;
import java.nio.file.Files;
import java.nio.file.Path;
import java.util.ArrayList;
import java.util.List;
import javax.tools.ToolProvider;

/** The example of README.md, as it stands there, compiles and prints what README.md says of it. */
public final class ReadmeTest {
    private static final Check CHECK = new Check();

    public static void main(String[] args) throws Exception {
        List<String> readme = Files.readAllLines(Path.of("README.md"), StandardCharsets.UTF_8);
        List<String> programs = blocks(readme, "```java");
        List<String> outputs = blocks(readme, "```text");
        CHECK.same("README.md's examples", programs.size(), 1);
        CHECK.same("README.md's outputs", outputs.size(), 1);
        Path room = Files.createTempDirectory("readme");
        try {
            Path program = Files.writeString(room.resolve("Example.java"), programs.get(0));
            CHECK.same("javac of the example", compiled(program, room), 0);
            CHECK.same("the example's output", outputOf(room), outputs.get(0));
        } finally {
            remove(room);
        }
        CHECK.end();
    }

    /** What stands between a line that opens a block and the next that closes one. */
    private static List<String> blocks(List<String> lines, String opening) {
        List<String> found = new ArrayList<>();
        StringBuilder block = null;
        for (String line : lines) {
            if (block == null && line.equals(opening)) {
                block = new StringBuilder();
            } else if (block != null && line.equals("```")) {
                found.add(block.toString());
                block = null;
            } else if (block != null) {
                block.append(line).append('\n');
            }
        }
        return found;
    }

    private static int compiled(Path program, Path room) {
        return ToolProvider.getSystemJavaCompiler().run(null, null, null, "--release", "17", "-encoding", "UTF-8",
            "-Xlint:all", "-Werror", "-implicit:none", "-cp", System.getProperty("java.class.path"),
            "-d", room.toString(), program.toString());
    }

    private static String outputOf(Path room) throws Exception {
        PrintStream usual = System.out;
        ByteArrayOutputStream printed = new ByteArrayOutputStream();
        try (URLClassLoader loader = new URLClassLoader(new URL[] {room.toUri().toURL()})) {
            System.setOut(new PrintStream(printed, true, StandardCharsets.UTF_8));
            loader.loadClass("Example").getMethod("main", String[].class).invoke(null, (Object) new String[0]);
        } finally {
            System.setOut(usual);
        }
        return printed.toString(StandardCharsets.UTF_8).replace(System.lineSeparator(), "\n");
    }

    private static void remove(Path room) throws IOException {
        try (var files = Files.list(room)) {
            for (Path file : files.toList()) {
                Files.delete(file);
            }
        }
        Files.delete(room);
    }
}
