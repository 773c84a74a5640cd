import java.io.IOException;
import java.lang.reflect.Method;
import java.lang.reflect.Modifier;
import java.nio.file.DirectoryStream;
import java.nio.file.Files;
import java.nio.file.Path;
import java.util.List;
import java.util.Set;
import java.util.TreeSet;
import java.util.regex.Matcher;
import java.util.regex.Pattern;

/** What README.md says is so: the answers of its example, all calls of the face, all tests. */
public final class ReadmeTest {
    private static final Pattern CALL = Pattern.compile("hands\\.(\\w+)\\((.*)\\); *// (0x[0-9a-f]+|-?[0-9]+)\\b.*");
    private static final Pattern NAMED = Pattern.compile("`(\\w+)`");

    private static final Check check = new Check();

    public static void main(String[] args) throws IOException, ReflectiveOperationException {
        List<String> lines = Files.readAllLines(Path.of("README.md"));
        int start = lines.indexOf("```java");
        int end = start + lines.subList(start, lines.size()).indexOf("```");
        example(lines.subList(start + 1, end));
        check.same("the calls " + named(lines, "| calls |"), named(lines, "| calls |").equals(face()), true);
        check.same("the tests " + named(lines, "| test |"), named(lines, "| test |").equals(tests()), true);
        check.end();
    }

    private static void example(List<String> lines) throws ReflectiveOperationException {
        HalfHands hands = new HalfHands();
        StringBuilder text = new StringBuilder();
        StringBuilder fed = new StringBuilder();
        for (String line : lines) {
            Matcher call = CALL.matcher(line);
            if (call.matches()) {
                String[] numbers = call.group(2).isEmpty() ? new String[0] : call.group(2).split(", ");
                check.same(line, answer(hands, call.group(1), numbers), Long.decode(call.group(3)));
                if (call.group(1).equals("feed")) {
                    append(fed, numbers);
                }
            } else if (line.startsWith("// ") && line.endsWith(";")) {
                text.append(text.length() == 0 ? "" : "\n").append(line.substring(3));
            } else {
                check.same("is no call with an answer: " + line, line.startsWith("hands."), false);
            }
        }
        check.same("what is fed is the text", fed.toString().stripTrailing().contentEquals(text), true);
        check.same("people", hands.count(0), 4);
    }

    private static long answer(HalfHands hands, String name, String[] numbers) throws ReflectiveOperationException {
        for (Method method : HalfHands.class.getMethods()) {
            if (method.getName().equals(name) && method.getParameterCount() == numbers.length) {
                Object[] arguments = new Object[numbers.length];
                for (int i = 0; i < numbers.length; i++) {
                    boolean row = method.getParameterTypes()[i] == long.class;
                    long number = Long.decode(numbers[i].replace("L", ""));
                    arguments[i] = row ? (Object) number : (Object) (int) number;
                }
                return ((Number) method.invoke(hands, arguments)).longValue();
            }
        }
        throw new NoSuchMethodException(name);
    }

    private static void append(StringBuilder fed, String[] numbers) {
        for (String number : numbers) {
            for (int shift = 24; shift >= 0; shift -= 8) {
                fed.append((char) (Long.decode(number) >> shift & 255));
            }
        }
    }

    /** All that stands between ` in the first column of a table. */
    private static Set<String> named(List<String> lines, String head) {
        Set<String> names = new TreeSet<>();
        boolean inside = false;
        for (String line : lines) {
            inside = line.startsWith(head) || inside && line.startsWith("|");
            if (inside) {
                Matcher name = NAMED.matcher(line.split("\\|")[1]);
                while (name.find()) {
                    check.same("named once: " + name.group(1), names.add(name.group(1)), true);
                }
            }
        }
        return names;
    }

    private static Set<String> face() {
        Set<String> names = new TreeSet<>();
        for (Method method : HalfHands.class.getDeclaredMethods()) {
            if (Modifier.isPublic(method.getModifiers())) {
                names.add(method.getName());
            }
        }
        return names;
    }

    private static Set<String> tests() throws IOException {
        Set<String> names = new TreeSet<>();
        try (DirectoryStream<Path> files = Files.newDirectoryStream(Path.of("src/test/java"), "*Test.java")) {
            for (Path file : files) {
                names.add(file.getFileName().toString().replace(".java", ""));
            }
        }
        return names;
    }
}
