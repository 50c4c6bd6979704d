import java.io.ByteArrayOutputStream;
import java.io.IOException;
import java.io.PrintStream;
import java.nio.charset.StandardCharsets;
import java.nio.file.Files;
import java.nio.file.Path;
import java.util.ArrayList;
import java.util.List;

/** README.md shows Example.java as it is, and each line that this prints is the one behind its call. */
final class ReadmeTest {

    private static final String PRINT = "System.out.println(";

    public static void main(String[] args) throws IOException {
        String example = Files.readString(Path.of("src/test/java/Example.java"));
        String readme = Files.readString(Path.of("README.md"));
        Check.isTrue("README.md shows Example.java", readme.contains("```java\n" + example + "```\n"));

        List<String> due = promisedLines(example);
        List<String> got = printedLines();
        Check.equal("the number of printed lines", got.size(), due.size());
        for (int index = 0; index < Math.min(got.size(), due.size()); index++) {
            Check.equal("line " + index + " of the example", got.get(index), due.get(index));
        }
        namesOfTests(readme);
        Check.end();
    }

    /** What stands behind a call, up to the colon that begins its reason. */
    private static List<String> promisedLines(String example) {
        List<String> lines = new ArrayList<>();
        for (String line : example.split("\n")) {
            if (line.contains(PRINT)) {
                String comment = line.substring(line.lastIndexOf("// ") + 3);
                int reason = comment.indexOf(": ");
                lines.add(reason < 0 ? comment : comment.substring(0, reason));
            }
        }
        return lines;
    }

    private static List<String> printedLines() {
        PrintStream screen = System.out;
        ByteArrayOutputStream printed = new ByteArrayOutputStream();
        System.setOut(new PrintStream(printed, true, StandardCharsets.UTF_8));
        try {
            Example.main(new String[0]);
        } finally {
            System.setOut(screen);
        }
        return printed.toString(StandardCharsets.UTF_8).lines().toList();
    }

    private static void namesOfTests(String readme) throws IOException {
        try (var files = Files.list(Path.of("src/test/java"))) {
            for (Path file : files.sorted().toList()) {
                String name = file.getFileName().toString().replace(".java", "");
                Check.isTrue("README.md names " + name, readme.contains("`" + name + "`"));
            }
        }
    }
}
