import java.io.IOException;
import java.nio.charset.StandardCharsets;
import java.nio.file.Files;
import java.nio.file.Paths;
import java.util.ArrayList;
import java.util.List;

/**
 * Follows ../shared/DOC.md word by word: says() and aside() quote the next words of a section, and
 * every check names the promise and the words it holds the class to. A word that was not quoted, or
 * a quoted sentence behind which nothing is checked, is a fault of the tests.
 */
final class Sentences {
    private final Checks checks;
    private final String document;
    private String heading = "";
    private String words = "";
    private int at = 0;
    private String quoted = "";
    private int checkedBefore = 0;

    Sentences(String name) {
        checks = new Checks(name);
        document = read("../shared/DOC.md");
    }

    interface Part {
        void run() throws Exception;
    }

    /** What a part throws is a fault of the sentence at which it is; the other parts go on. */
    void run(Part... parts) {
        for (Part part : parts) {
            try {
                part.run();
            } catch (Exception e) {
                checks.due(named("throws " + e), true, false);
            }
        }
    }

    /** The class as it is written. */
    static String source() {
        return read(System.getProperty("source", "src/main/java/ThornHedge.java"));
    }

    static String read(String path) {
        try {
            return new String(Files.readAllBytes(Paths.get(path)), StandardCharsets.UTF_8);
        } catch (IOException e) {
            throw new IllegalStateException(e);
        }
    }

    List<String> headings() {
        List<String> all = new ArrayList<>();
        for (String line : document.split("\n")) if (line.startsWith("## ")) all.add(line.substring(3));
        return all;
    }

    /** The lines of a section as they stand in the document. */
    String section(String heading) {
        int from = document.indexOf("\n## " + heading + "\n");
        checks.due("the document has '" + heading + "'", from >= 0, true);
        if (from < 0) return "";
        int to = document.indexOf("\n## ", from + 1);
        return document.substring(from + heading.length() + 5, to < 0 ? document.length() : to);
    }

    /** Goes on with this section; the one before must have been told to its end. */
    void begin(String next) {
        close();
        heading = next;
        words = section(next).replace("```text", " ").replace("```", " ").replaceAll("\\s+", " ").trim();
        at = 0;
    }

    /** A promise begins with its call, which FaceTest holds against the class. */
    void promise(int number, String call) {
        begin("Promise " + number + ": " + (call.isEmpty() ? "A new object" : call));
        int colon = words.indexOf("`: ");
        checks.due("promise " + number + " begins with its call", words.startsWith("`") && colon > 0, true);
        at = Math.max(0, colon + 2);
        int name = heading.indexOf(':');
        heading = heading.substring(0, name) + (call.isEmpty() ? "" : ", " + call);
    }

    /** The next words promise something: what is checked behind this is checked for them. */
    void says(String next) {
        sentenceEnds();
        step(next);
        quoted = next;
        checkedBefore = checks.checked();
    }

    /** The next words promise nothing by themselves. */
    void aside(String next) {
        sentenceEnds();
        step(next);
    }

    void aside(String first, String last) {
        aside(first);
        int found = words.indexOf(last, at);
        checks.due(heading + " says then '" + last + "'", found >= 0, true);
        if (found >= 0) at = found + last.length();
    }

    private void step(String next) {
        int found = words.indexOf(next, at);
        checks.due(heading + " says next '" + next + "'", found >= 0, true);
        if (found < 0) return;
        gap(words.substring(at, found));
        at = found + next.length();
    }

    private void gap(String between) {
        checks.due(heading + ", words without a test: '" + between + "'", between.matches("[^A-Za-z0-9]*"), true);
    }

    private void sentenceEnds() {
        if (!quoted.isEmpty()) checks.due(heading + ", '" + quoted + "' is checked", checks.checked() > checkedBefore, true);
        quoted = "";
    }

    private void close() {
        sentenceEnds();
        gap(words.substring(at));
        words = "";
        at = 0;
    }

    private String named(String what) {
        return heading + ", '" + quoted + "': " + what;
    }

    void is(String what, long got, long want) {
        checks.due(named(what), got, want);
    }

    void is(String what, boolean got, boolean want) {
        checks.due(named(what), got, want);
    }

    void same(String what, String got, String want) {
        checks.due(named(what), got, want);
    }

    void row(String what, ThornHedge x, long... numbers) {
        checks.row(named(what), x, numbers);
    }

    void thrown(String what, Checks.Call call) {
        checks.noSuchElement(named(what), call);
    }

    void refused(String what, Twins.Maker maker, Twins.Asked asked, long due) {
        checks.refused(named(what), maker, asked, due);
    }

    void refusedText(Twins.Maker maker, String text, Twins.Asked asked, long due) {
        checks.refusedText(named("text"), maker, text, asked, due);
    }

    void question(String what, Twins.Maker maker, Twins.Asked asked) {
        checks.question(named(what), maker, asked);
    }

    void end() {
        close();
        checks.end();
    }
}
