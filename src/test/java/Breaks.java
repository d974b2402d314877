import java.io.ByteArrayOutputStream;
import java.io.File;
import java.io.IOException;
import java.nio.charset.StandardCharsets;
import java.nio.file.Files;
import java.nio.file.Path;
import java.nio.file.Paths;
import java.util.ArrayList;
import java.util.List;
import java.util.concurrent.ExecutorService;
import java.util.concurrent.Executors;
import java.util.concurrent.Future;
import java.util.concurrent.TimeUnit;
import javax.tools.ToolProvider;

/**
 * Shows that the tests by sentences would fail if a sentence were broken: each break under
 * src/test/breaks changes the class a little, and a test must then print a line that names the
 * promise that was broken. It is run by hand (README.md), not by .ci/run.
 *
 * <p>A break: a line with the promise's number (T: the terms) and what is broken; "@ text" goes on
 * behind that text of the class; "- old" and "+ new" change the next place where old stands.
 */
public final class Breaks {
    private final String part;
    private final String name;
    private final List<String> steps = new ArrayList<>();

    private Breaks(String part, String name) {
        this.part = part;
        this.name = name;
    }

    private static List<Breaks> read(String part) throws IOException {
        List<Breaks> all = new ArrayList<>();
        for (String line : Files.readAllLines(Paths.get("src/test/breaks/" + part + ".txt"), StandardCharsets.UTF_8)) {
            if (line.isEmpty()) continue;
            if ("@-+".indexOf(line.charAt(0)) >= 0) all.get(all.size() - 1).steps.add(line);
            else all.add(new Breaks(part, line));
        }
        return all;
    }

    /** The class with this break in it, or null if it does not have the places any more. */
    private String in(String source) {
        int at = 0;
        String old = null;
        for (String step : steps) {
            String text = step.substring(1).trim();
            if (step.charAt(0) == '+') {
                if (old == null) return null;
                source = source.substring(0, at) + text + source.substring(at + old.length());
                at += text.length();
                old = null;
                continue;
            }
            at = source.indexOf(text, at);
            if (at < 0) return null;
            if (step.charAt(0) == '-') old = text;
            else at += text.length();
        }
        return old == null ? source : null;
    }

    private String label() {
        String first = name.substring(0, name.indexOf(' '));
        return first.equals("T") ? "Terms, '" : "Promise " + first + ",";
    }

    /** What is wrong with this break, or nothing if a test names what it broke. */
    private String tried(String source, Path tests, Path room, int number) throws Exception {
        String broken = in(source);
        if (broken == null) return "has no such places";
        Path dir = Files.createDirectories(room.resolve("break" + number));
        Path file = dir.resolve("ThornHedge.java");
        Files.write(file, broken.getBytes(StandardCharsets.UTF_8));
        ByteArrayOutputStream said = new ByteArrayOutputStream();
        int compiled = ToolProvider.getSystemJavaCompiler().run(null, said, said, "-nowarn", "-d", dir.toString(), file.toString());
        if (compiled != 0) return "does not compile: " + said;
        String told = run(dir, "java", "-XX:TieredStopAtLevel=1", "-Dsource=" + file, "-cp", dir + ":" + tests, "SentencesOf" + part + "Test");
        return told.contains(": " + label()) ? "" : "is not told: " + told.substring(0, Math.min(400, told.length()));
    }

    private static String run(Path dir, String... command) throws Exception {
        Path out = dir.resolve(command[command.length - 1].replace('/', '_') + ".out");
        Process p = new ProcessBuilder(command).redirectErrorStream(true).redirectOutput(out.toFile()).start();
        if (!p.waitFor(60, TimeUnit.SECONDS)) p.destroyForcibly();
        return new String(Files.readAllBytes(out), StandardCharsets.UTF_8);
    }

    private static void delete(File file) {
        File[] inside = file.listFiles();
        if (inside != null) for (File each : inside) delete(each);
        file.delete();
    }

    public static void main(String[] args) throws Exception {
        Path tests = Paths.get(args[0]), room = Files.createTempDirectory("breaks");
        String source = Sentences.read("src/main/java/ThornHedge.java");
        List<Breaks> all = new ArrayList<>();
        for (String part : new String[] {"Terms", "Acts", "Questions"}) all.addAll(read(part));
        ExecutorService pool = Executors.newFixedThreadPool(Runtime.getRuntime().availableProcessors());
        List<Future<String>> answers = new ArrayList<>();
        for (int i = 0; i < all.size(); i++) {
            int number = i;
            answers.add(pool.submit(() -> all.get(number).tried(source, tests, room, number)));
        }
        int untold = 0;
        for (int i = 0; i < all.size(); i++) {
            String wrong = answers.get(i).get();
            if (wrong.isEmpty()) continue;
            untold++;
            System.out.println(all.get(i).name + " -- " + wrong);
        }
        pool.shutdown();
        delete(room.toFile());
        System.out.println(all.size() + " breaks, " + untold + " not told");
        if (untold != 0) System.exit(1);
    }
}
