import java.io.IOException;
import java.nio.file.Files;
import java.nio.file.Path;
import java.util.List;
import java.util.Set;
import java.util.regex.Matcher;
import java.util.regex.Pattern;

/** The rules of LANGUAGE.md that show in the source. */
public final class SourceTest {
    private static final Check check = new Check();
    private static final Pattern FORBIDDEN = Pattern.compile("->|::|\\b(assert|synchronized|finally|try|catch|package|"
            + "protected|hashCode|toString|static \\{|Exact|Random|Thread|currentTimeMillis|nanoTime|float|double)\\b");
    private static final Set<String> IMPORTS =
            Set.of("import java.util.Arrays;", "import java.util.NoSuchElementException;");
    private static final Pattern CALL = Pattern.compile("\\b([A-Z]\\w*\\.\\w+)\\(");
    private static final Set<String> LIBRARY =
            Set.of("Math.min", "Math.max", "Integer.bitCount", "System.arraycopy", "Arrays.fill", "WORDS.charAt",
                    "WORDS.length", "SIGNS.indexOf");
    private static final Set<String> OWN = Set.of("Tokens.isName", "Tokens.isComparison", "Row.placed");
    private static final Pattern CONSTANT =
            Pattern.compile("\\s*(public |private )?static final (int|long|String) [A-Z_]+\\s*=.*");
    private static final Pattern METHOD = Pattern.compile("^( {4}| {8})[a-zA-Z].*\\) (throws .*)?\\{$");

    public static void main(String[] args) throws IOException {
        List<String> lines = Files.readAllLines(Path.of("src/main/java/HalfHands.java"));
        int start = 0;
        String end = "no end";
        for (int i = 0; i < lines.size(); i++) {
            String line = lines.get(i);
            String code = line.replaceAll("//.*|^\\s*/?\\*.*", "");
            check.same("line " + (i + 1) + " is outside the language: " + line, FORBIDDEN.matcher(code).find(), false);
            rules(i + 1, code);
            check.same("signs above 126 in line " + (i + 1), line.chars().anyMatch(sign -> sign > 126), false);
            check.same("line " + (i + 1) + " is too long", line.length() <= 125, true);
            if (METHOD.matcher(line).matches()) {
                start = i;
                end = line.replaceAll("\\S.*", "") + "}";
            } else if (line.equals(end)) {
                check.same("the method at line " + (start + 1) + " has " + (i - start + 1) + " lines",
                        i - start + 1 <= 60, true);
                end = "no end";
            }
        }
        check.end();
    }

    /** Rules 4, 5 and 6: what is called of the library, what is static, what is thrown. */
    private static void rules(int number, String code) {
        if (code.startsWith("import")) {
            check.same("line " + number + " imports", IMPORTS.contains(code), true);
        }
        Matcher call = CALL.matcher(code);
        while (call.find()) {
            check.same("line " + number + " calls " + call.group(1),
                    LIBRARY.contains(call.group(1)) || OWN.contains(call.group(1)), true);
        }
        boolean constant = code.contains("static") && !code.contains("(") && !code.contains("class");
        check.same("line " + number + " is a constant", !constant || CONSTANT.matcher(code).matches(), true);
        check.same("line " + number + " throws",
                !code.contains("throw ") || code.matches("\\s*throw new (IndexOutOfBounds|NoSuchElement)Exception\\(\\);"),
                true);
    }
}
