import java.io.File;
import java.io.IOException;
import java.nio.file.Files;
import java.nio.file.Path;
import java.util.ArrayList;
import java.util.List;
import java.util.regex.Matcher;
import java.util.regex.Pattern;

/** README.md: each call of the document stands in it as it is there, and its program prints what the page says. */
public final class ReadmeTest {
    private static final String PROGRAM = "MyProgram";
    private static final Path PLACE = Path.of("build", "readme");

    private static final Checks checks = new Checks("ReadmeTest");

    public static void main(String[] args) throws IOException, InterruptedException {
        String page = Files.readString(Path.of("README.md"));
        calls(page);
        program(page);
        checks.end();
    }

    /** The rows of the page that begin with a promise's number, against the lines of the document's face. */
    private static void calls(String page) throws IOException {
        List<String> face = found("(?m)^ {4}public (.*);$", Files.readString(Path.of("..", "shared", "DOC.md")));
        List<String> rows = found("(?m)^\\| (\\d+ \\| .*)$", page);
        checks.due("the number of calls in the document", face.size(), 31);
        checks.due("the number of calls in the page", rows.size(), face.size());
        for (int i = 0; i < Math.min(face.size(), rows.size()); i++) {
            String[] call = face.get(i).split(" throws ");
            String start = (i + 1) + " | `" + call[0] + "` | ";
            checks.that("the row " + rows.get(i) + " does not begin with " + start, rows.get(i).startsWith(start));
            String due = call.length < 2 ? "" : call[1].replace("java.util.", "");
            String said = String.join(", ", found("`(\\w+Exception)`", rows.get(i)));
            checks.that(call[0] + " throws " + said + " in the page, due is " + due, said.equals(due));
        }
    }

    private static List<String> found(String pattern, String text) {
        List<String> found = new ArrayList<>();
        Matcher matcher = Pattern.compile(pattern).matcher(text);
        while (matcher.find()) {
            found.add(matcher.group(1));
        }
        return found;
    }

    private static String block(String page, String kind) {
        List<String> blocks = found("(?ms)^```" + kind + "\n(.*?)^```$", page);
        checks.due("the number of blocks of " + kind, blocks.size(), 1);
        return blocks.isEmpty() ? "" : blocks.get(0);
    }

    private static void program(String page) throws IOException, InterruptedException {
        Files.createDirectories(PLACE);
        Path source = PLACE.resolve(PROGRAM + ".java");
        Files.writeString(source, block(page, "java"));
        String out = PLACE.toString();
        output("javac", "-d", out, "src/main/java/ScapegoatSpur.java", source.toString());
        String printed = output("java", "-cp", out, PROGRAM);
        checks.that("the page's program prints:\n" + printed, printed.equals(block(page, "text")));
    }

    private static String output(String... command) throws IOException, InterruptedException {
        File answer = PLACE.resolve("output").toFile();
        Process process = new ProcessBuilder(command).redirectOutput(answer)
                .redirectError(ProcessBuilder.Redirect.INHERIT).start();
        checks.due("the exit code of " + command[0], process.waitFor(), 0);
        return Files.readString(answer.toPath()).replace("\r\n", "\n");
    }
}
