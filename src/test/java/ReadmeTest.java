import java.io.File;
import java.nio.charset.StandardCharsets;
import java.nio.file.Files;
import java.nio.file.Path;

/** The program in README.md prints what stands behind it there; README.md names every test. */
public final class ReadmeTest {
    private static final Checks c = new Checks("ReadmeTest");

    public static void main(String[] args) throws Exception {
        String readme = Sentences.read("README.md");
        String program = block(readme, "```java\n"), due = block(readme, "```text\n");
        String classes = System.getProperty("java.class.path");
        Path room = Files.createTempDirectory("readme");
        Path file = Files.write(room.resolve("Salt.java"), program.getBytes(StandardCharsets.UTF_8));
        c.due("README.md: its program compiles", said(room, "javac", "-d", room.toString(), "-cp", classes, file.toString()), "");
        c.due("README.md: what its program prints", said(room, "java", "-cp", room + File.pathSeparator + classes, "Salt"), due);
        for (File each : room.toFile().listFiles()) each.delete();
        room.toFile().delete();
        for (String name : new File("src/test/java").list()) {
            if (name.endsWith("Test.java")) c.due("README.md names " + name, readme.contains("| " + name.replace(".java", "") + " |"), true);
        }
        c.end();
    }

    private static String block(String readme, String begins) {
        int from = readme.indexOf(begins);
        c.due("README.md has " + begins.trim(), from >= 0, true);
        if (from < 0) return "";
        int to = readme.indexOf("```", from + begins.length());
        return readme.substring(from + begins.length(), to < 0 ? readme.length() : to);
    }

    private static String said(Path room, String... command) throws Exception {
        Path out = room.resolve("said");
        new ProcessBuilder(command).redirectErrorStream(true).redirectOutput(out.toFile()).start().waitFor();
        return new String(Files.readAllBytes(out), StandardCharsets.UTF_8).replace("\r\n", "\n");
    }
}
