import java.io.File;
import java.io.IOException;
import java.lang.reflect.Method;
import java.lang.reflect.Modifier;
import java.nio.file.Files;
import java.nio.file.Path;
import java.util.ArrayList;
import java.util.List;
import java.util.concurrent.TimeUnit;

/**
 * What README.md says: its example, compiled and run by its own commands, and the names of the calls. Run it from the
 * project's folder.
 */
public final class ReadmeTest {
    private static final Path SOURCE = Path.of("src/main/java/RingGates.java");
    private static final String EXAMPLE = "Example.java";
    private static final int SECONDS = 120;

    public static void main(String[] args) throws IOException, InterruptedException {
        String readme = Files.readString(Path.of("README.md"));
        List<String> wrongs = new ArrayList<>();
        example(readme, wrongs);
        calls(readme, wrongs);
        wrongs.forEach(wrong -> System.out.println("ReadmeTest: " + wrong));
        System.out.println("ReadmeTest: " + wrongs.size() + " wrong");
        if (!wrongs.isEmpty()) {
            System.exit(1);
        }
    }

    /** The commands are done as they stand there, in a folder that holds the class and the example alone. */
    private static void example(String readme, List<String> wrongs) throws IOException, InterruptedException {
        Path folder = Files.createTempDirectory("readme");
        try {
            Path source = folder.resolve(SOURCE);
            Files.createDirectories(source.getParent());
            Files.copy(SOURCE, source);
            Files.writeString(folder.resolve(EXAMPLE), block(readme, "java"));
            StringBuilder printed = new StringBuilder();
            for (String command : block(readme, "sh").split("\n")) {
                printed.append(printedBy(command, folder, wrongs));
            }
            String due = block(readme, "text");
            if (!printed.toString().equals(due)) {
                wrongs.add("the example prints\n" + printed + "and README.md says\n" + due);
            }
        } finally {
            delete(folder.toFile());
        }
    }

    /** The only block of README.md that is marked so. */
    private static String block(String readme, String mark) {
        String[] parts = readme.split("(?m)^```" + mark + "\n", -1);
        int end = parts.length == 2 ? parts[1].indexOf("```") : -1;
        if (end < 1) {
            throw new IllegalStateException("README.md has not just one block marked " + mark);
        }
        return parts[1].substring(0, end);
    }

    private static String printedBy(String command, Path folder, List<String> wrongs)
        throws IOException, InterruptedException {
        File output = folder.resolve("output").toFile();
        // What java itself says of its settings comes by the error stream: it is no part of what the example prints.
        Process process = new ProcessBuilder(command.split(" ")).directory(folder.toFile())
            .redirectError(ProcessBuilder.Redirect.INHERIT).redirectOutput(output).start();
        if (!process.waitFor(SECONDS, TimeUnit.SECONDS)) {
            process.destroyForcibly().waitFor();
            wrongs.add("'" + command + "' does not end");
        } else if (process.exitValue() != 0) {
            wrongs.add("'" + command + "' ends with " + process.exitValue());
        }
        return Files.readString(output.toPath()).replace(System.lineSeparator(), "\n");
    }

    private static void calls(String readme, List<String> wrongs) {
        for (Method m : RingGates.class.getDeclaredMethods()) {
            if (Modifier.isPublic(m.getModifiers()) && !readme.contains("`" + m.getName() + "`")) {
                wrongs.add("README.md does not name " + m.getName());
            }
        }
    }

    private static void delete(File file) {
        File[] inside = file.listFiles();
        for (int i = 0; inside != null && i < inside.length; i++) {
            delete(inside[i]);
        }
        file.delete();
    }
}
