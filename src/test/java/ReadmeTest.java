import java.io.ByteArrayOutputStream;
import java.io.IOException;
import java.io.PrintStream;
import java.nio.charset.StandardCharsets;
import java.nio.file.Files;
import java.nio.file.Path;
import java.util.ArrayList;
import java.util.List;

/** The program in README.md is the one that is compiled here, and prints what its comments say. */
public final class ReadmeTest extends Checks {
    public static void main(String[] args) throws IOException {
        about = "README.md";
        // .ci/run starts the tests in the project's folder.
        List<String> shown = program(Files.readAllLines(Path.of("README.md")));
        List<String> compiled = Files.readAllLines(Path.of("src/test/support/Example.java"));
        due("its program is the one in src/test/support", shown.equals(compiled), true);
        List<String> want = comments(compiled);
        due("lines that it prints, more than none", !want.isEmpty(), true);
        List<String> got = printed();
        if (!got.equals(want)) {
            fail("its program prints " + got + ", due is " + want);
        }
        finish("the program in README.md prints what it says");
    }

    private static List<String> program(List<String> readme) {
        int from = readme.indexOf("```java") + 1;
        List<String> rest = readme.subList(from, readme.size());
        return rest.subList(0, Math.max(0, rest.indexOf("```")));
    }

    private static List<String> comments(List<String> program) {
        List<String> comments = new ArrayList<>();
        for (String line : program) {
            if (line.contains("println")) {
                comments.add(line.substring(line.indexOf("// ") + 3).strip());
            }
        }
        return comments;
    }

    private static List<String> printed() {
        PrintStream out = System.out;
        ByteArrayOutputStream caught = new ByteArrayOutputStream();
        System.setOut(new PrintStream(caught, true, StandardCharsets.UTF_8));
        try {
            Example.main(new String[0]);
        } finally {
            System.setOut(out);
        }
        return caught.toString(StandardCharsets.UTF_8).lines().toList();
    }
}
