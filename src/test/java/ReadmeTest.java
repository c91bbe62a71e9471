import java.io.IOException;
import java.nio.file.DirectoryStream;
import java.nio.file.Files;
import java.nio.file.Path;
import java.util.regex.Matcher;
import java.util.regex.Pattern;

/** The calls that README.md shows, with the answers that stand behind them. */
public final class ReadmeTest {
    private static final Pattern BLOCK = Pattern.compile("(?s)```java\n(.*?)```");
    private static final Pattern LINE = Pattern.compile("book\\.(\\w+\\(.*?\\)); +// (throws \\w+|[^:]+)(: .+)?");

    public static void main(String[] args) throws IOException {
        String page = Files.readString(Path.of("README.md"));
        Matcher block = BLOCK.matcher(page);
        int blocks = 0;
        while (block.find()) {
            blocks++;
            calls(block.group(1).split("\n"));
        }
        Expect.is("blocks of calls are shown", blocks >= 6, true);
        tests(page);
        Expect.end("ReadmeTest");
    }

    private static void calls(String[] lines) {
        Expect.is("the first line of a block", lines[0], "GlacierBook book = new GlacierBook();");
        GlacierBook book = new GlacierBook();
        for (int i = 1; i < lines.length; i++) {
            Matcher line = LINE.matcher(lines[i]);
            if (line.matches()) {
                Expect.is(lines[i], answer(book, line.group(1)), line.group(2));
            } else {
                Expect.is("a line of calls", lines[i], "book.call(numbers); // answer: why");
            }
        }
    }

    private static String answer(GlacierBook book, String call) {
        Object answer = Books.answer(() -> Books.call(book, call.replaceAll("L\\)$", ")")));
        return answer instanceof Class ? "throws " + ((Class<?>) answer).getSimpleName() : answer.toString();
    }

    /** The page tells of each test. */
    private static void tests(String page) throws IOException {
        try (DirectoryStream<Path> files = Files.newDirectoryStream(Path.of("src/test/java"), "*Test.java")) {
            for (Path file : files) {
                String name = file.getFileName().toString().replace(".java", "");
                Expect.is("README.md tells of " + name, page.contains("`" + name + "`"), true);
            }
        }
    }
}
