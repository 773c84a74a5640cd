import java.io.IOException;
import java.nio.file.Files;
import java.nio.file.Path;
import java.util.List;
import java.util.regex.Pattern;

/** The rules of LANGUAGE.md that show in the source. */
public final class SourceTest {
    private static final Check check = new Check();
    private static final Pattern FORBIDDEN = Pattern.compile("->|::|\\b(assert|synchronized|finally|try|catch|package|"
            + "protected|hashCode|toString|static \\{|Exact|Random|Thread|currentTimeMillis|nanoTime|float|double)\\b");
    private static final Pattern METHOD = Pattern.compile("^( {4}| {8})[a-zA-Z].*\\) (throws .*)?\\{$");

    public static void main(String[] args) throws IOException {
        List<String> lines = Files.readAllLines(Path.of("src/main/java/HalfHands.java"));
        int start = 0;
        String end = "no end";
        for (int i = 0; i < lines.size(); i++) {
            String line = lines.get(i);
            String code = line.replaceAll("//.*|/?\\*.*", "");
            check.same("line " + (i + 1) + " is outside the language: " + line, FORBIDDEN.matcher(code).find(), false);
            check.same("signs above 126 in line " + (i + 1), line.chars().anyMatch(sign -> sign > 126), false);
            check.same("line " + (i + 1) + " is too long", line.length() <= 125, true);
            if (METHOD.matcher(line).matches()) {
                start = i;
                end = line.replaceAll("\\S.*", "") + "}";
            } else if (line.equals(end)) {
                check.same("the method at line " + (start + 1) + " has " + (i - start + 1) + " lines",
                        i - start + 1 <= 60, true);
                end = "no end";
            }
        }
        check.end();
    }
}
