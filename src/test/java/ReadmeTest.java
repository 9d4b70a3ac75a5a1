import java.io.IOException;
import java.nio.charset.StandardCharsets;
import java.nio.file.Files;
import java.nio.file.Path;
import java.util.ArrayList;
import java.util.List;
import java.util.TreeSet;
import java.util.regex.Matcher;
import java.util.regex.Pattern;
import java.util.stream.Stream;

/** What README.md says of the calls is so, and it tells every call and every test. */
public final class ReadmeTest {
    private static final Pattern EXAMPLE = Pattern.compile("yard\\.(\\w+\\([^)]*\\)); +// (-?\\d+)(: .*)?");
    private static final Pattern ROW = Pattern.compile("\\| `(\\w+\\([^)]*\\))` \\| (\\*?) ?\\| .+ \\|");
    /** Those whose comments end with a star in the document. */
    private static final List<String> CHANGES = List.of("hive", "box", "frame", "out", "back", "put", "bring", "harvest", "move",
        "stack", "join", "split", "thing", "line", "slot", "lay", "mate", "day", "swarm", "settle", "sample", "treat", "due");
    private static final Check c = new Check();

    private ReadmeTest() {
    }

    public static void main(String[] args) throws IOException {
        List<String> lines = Files.readAllLines(Path.of("README.md"), StandardCharsets.UTF_8);
        c.about("examples");
        examples(lines);
        c.about("calls");
        calls(lines);
        c.about("tests");
        tests(String.join("\n", lines));
        c.done("ReadmeTest");
    }

    private static void examples(List<String> lines) {
        BeeYard yard = null;
        int made = 0;
        for (String line : lines) {
            if (line.equals("```java")) {
                yard = new BeeYard();
            } else if (line.equals("```")) {
                yard = null;
            } else if (yard != null && !line.equals("BeeYard yard = new BeeYard();")) {
                made += example(yard, line);
            }
        }
        c.is("some examples were made", made > 0 ? 1 : 0, 1);
    }

    private static int example(BeeYard yard, String line) {
        Matcher told = EXAMPLE.matcher(line);
        if (!told.matches()) {
            c.is("'" + line + "' is a call with its answer", 0, 1);
            return 0;
        }
        c.is(told.group(1), Calls.make(yard, told.group(1)), Integer.parseInt(told.group(2)));
        return 1;
    }

    private static void calls(List<String> lines) throws IOException {
        List<String> told = new ArrayList<>();
        for (String line : lines) {
            Matcher row = ROW.matcher(line);
            if (row.matches()) {
                told.add(row.group(1));
                String name = row.group(1).substring(0, row.group(1).indexOf('('));
                c.is(name + " has a star", row.group(2).length(), CHANGES.contains(name) ? 1 : 0);
            }
        }
        c.is("no call is told twice: " + told, new TreeSet<>(told).size(), told.size());
        TreeSet<String> face = face();
        c.is("calls of the face", face.size(), 47);
        c.is("the calls " + new TreeSet<>(told) + " are " + face, new TreeSet<>(told).equals(face) ? 1 : 0, 1);
    }

    private static TreeSet<String> face() throws IOException {
        String source = Files.readString(Path.of("src/main/java/BeeYard.java"), StandardCharsets.UTF_8);
        Matcher method = Pattern.compile("\n    public int (\\w+)\\(([^)]*)\\) \\{").matcher(source);
        TreeSet<String> face = new TreeSet<>();
        while (method.find()) {
            face.add(method.group(1) + "(" + method.group(2).replace("int ", "") + ")");
        }
        return face;
    }

    private static void tests(String readme) throws IOException {
        TreeSet<String> named = new TreeSet<>();
        Matcher word = Pattern.compile("`(\\w+Test)`").matcher(readme);
        while (word.find()) {
            named.add(word.group(1));
        }
        TreeSet<String> there = new TreeSet<>();
        try (Stream<Path> files = Files.list(Path.of("src/test/java"))) {
            files.map(f -> f.getFileName().toString()).filter(n -> n.endsWith("Test.java"))
                .forEach(n -> there.add(n.substring(0, n.length() - ".java".length())));
        }
        c.is("the tests " + named + " are " + there, named.equals(there) ? 1 : 0, 1);
    }
}
