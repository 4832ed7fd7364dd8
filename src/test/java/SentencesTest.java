import java.io.IOException;
import java.nio.charset.StandardCharsets;
import java.nio.file.Files;
import java.nio.file.Path;
import java.util.ArrayList;
import java.util.Arrays;
import java.util.List;
import java.util.regex.Matcher;
import java.util.regex.Pattern;
import java.util.stream.Stream;

/** Whether each word of the document's terms and promises stands in a sentence that a test says it tests. */
public final class SentencesTest extends Checks {
    private static final String TEXT = "\"((?:[^\"\\\\]|\\\\.)*)\"";
    private static final Pattern QUOTE = Pattern.compile("sentence\\(" + TEXT + ",\\s*(" + TEXT + "(?:\\s*\\+\\s*"
        + TEXT + ")*)\\)");

    /** The document's words without headings, fences, the heads of methods and the marks between its parts. */
    private static String words() throws IOException {
        StringBuilder out = new StringBuilder();
        boolean binding = false;
        for (String line : Files.readAllLines(Path.of("../shared/DOC.md"), StandardCharsets.UTF_8)) {
            if (line.startsWith("## ")) {
                binding = line.equals("## Terms") || line.startsWith("## Promise ");
            } else if (binding && !line.startsWith("```") || line.startsWith("An object is used")) {
                out.append(line.replaceAll("^`[^`]*\\(.*?\\)`: ", "").replaceAll("^==== \\d\\. ", "")).append(' ');
            }
        }
        return out.toString().replaceAll("\\s+", " ");
    }

    private static List<String> quotes() throws IOException {
        List<String> out = new ArrayList<>();
        try (Stream<Path> files = Files.list(Path.of("src/test/java"))) {
            for (Path file : files.sorted().toList()) {
                Matcher call = QUOTE.matcher(Files.readString(file, StandardCharsets.UTF_8));
                while (call.find()) {
                    StringBuilder words = new StringBuilder();
                    Matcher part = Pattern.compile(TEXT).matcher(call.group(2));
                    while (part.find()) {
                        words.append(part.group(1));
                    }
                    out.add(words.toString().replaceAll("\\s+", " "));
                }
            }
        }
        return out;
    }

    public static void main(String[] args) throws IOException {
        String words = words();
        boolean[] tested = new boolean[words.length()];
        List<String> quotes = quotes();
        for (String quote : quotes) {
            int at = words.indexOf(quote);
            due("whether terms or promises say \"" + quote + "\"", at >= 0, true);
            if (at >= 0) {
                Arrays.fill(tested, at, at + quote.length(), true);
            }
        }
        int from = 0;
        for (int i = 0; i <= words.length(); i++) {
            if (i == words.length() || tested[i]) {
                String left = words.substring(from, i).trim();
                if (!left.isEmpty()) {
                    due("whether a test says that it tests \"" + left + "\"", left.matches("[^A-Za-z0-9]*"), true);
                }
                from = i + 1;
            }
        }
        due("whether the terms and 26 promises were found", words.length() > 6000, true);
        report("SentencesTest", quotes.size() + " quotes, ");
    }
}
