import java.io.IOException;
import java.lang.reflect.InvocationTargetException;
import java.lang.reflect.Method;
import java.nio.file.DirectoryStream;
import java.nio.file.Files;
import java.nio.file.Path;
import java.util.Arrays;
import java.util.HashMap;
import java.util.HashSet;
import java.util.Map;
import java.util.Set;
import java.util.TreeSet;
import java.util.regex.Matcher;
import java.util.regex.Pattern;

/** README.md tells of each call of the document's face, what it throws in which order, and right answers. */
final class ReadmeTest {
    private static final Pattern FACE = Pattern.compile("    public \\w+ (\\w+)\\((.*?)\\)(?: throws (.*))?;");
    private static final Pattern ROW = Pattern.compile("\\| `(\\w+\\(.*?\\))` \\| .+ \\|(.*)\\|");
    private static final Pattern EXAMPLE = Pattern.compile("house\\.(\\w+)\\((.*)\\); +// (.+)");
    private static final Map<String, String> SHORT = Map.of(
        "Index", "IndexOutOfBoundsException",
        "Argument", "IllegalArgumentException",
        "State", "IllegalStateException",
        "NoSuch", "NoSuchElementException",
        "Unsupported", "UnsupportedOperationException",
        "Arithmetic", "ArithmeticException");

    public static void main(String[] args) throws Exception {
        String readme = Files.readString(Path.of("README.md"));
        rows(readme);
        examples(readme);
        tests(readme);
        Due.end("ReadmeTest");
    }

    private static void rows(String readme) throws IOException {
        Map<String, String> told = new HashMap<>();
        Matcher row = ROW.matcher(readme);
        while (row.find()) {
            StringBuilder thrown = new StringBuilder();
            for (String word : row.group(2).strip().split(", ")) {
                thrown.append(SHORT.getOrDefault(word, word)).append(' ');
            }
            Due.yes("told of once: " + row.group(1), told.put(row.group(1), thrown.toString().strip()) == null);
        }
        int calls = 0;
        Matcher face = FACE.matcher(Files.readString(Path.of("../shared/DOC.md")));
        while (face.find()) {
            calls++;
            String call = face.group(1) + "(" + face.group(2).replace("int ", "") + ")";
            String thrown = face.group(3) == null ? "" : face.group(3).replace(",", "");
            Due.is("what README tells of " + call, told.getOrDefault(call, "nothing"), thrown);
        }
        Due.is("how many calls the document has", calls, 42);
        Due.is("how many calls README tells of", told.size(), calls);
    }

    private static void examples(String readme) throws IllegalAccessException {
        Set<String> shown = new HashSet<>();
        int blocks = 0;
        for (String block : readme.split("```java\n")) {
            if (blocks++ == 0) {
                continue;
            }
            String[] lines = block.substring(0, block.indexOf("```")).split("\n");
            Due.is("what an example begins with", lines[0], "Checkdraw house = new Checkdraw();");
            Checkdraw house = new Checkdraw();
            for (String line : Arrays.copyOfRange(lines, 1, lines.length)) {
                Matcher example = EXAMPLE.matcher(line);
                if (example.matches()) {
                    Due.is("README, " + line, answer(house, example.group(1), example.group(2)), example.group(3));
                    shown.add(example.group(1));
                } else {
                    Due.is("a row of an example", line, "house.name(numbers); // answer");
                }
            }
        }
        for (Method method : Checkdraw.class.getMethods()) {
            if (method.getDeclaringClass() == Checkdraw.class) {
                Due.yes("README shows " + method.getName(), shown.contains(method.getName()));
            }
        }
    }

    private static String answer(Checkdraw house, String name, String numbers) throws IllegalAccessException {
        Object[] given = numbers.isEmpty() ? new Object[0] : Arrays.stream(numbers.split(", ")).map(ReadmeTest::number).toArray();
        for (Method method : Checkdraw.class.getMethods()) {
            if (method.getName().equals(name) && method.getParameterCount() == given.length) {
                try {
                    return method.invoke(house, given).toString();
                } catch (InvocationTargetException e) {
                    return "throws " + e.getCause().getClass().getSimpleName();
                }
            }
        }
        return "there is no such call";
    }

    private static Object number(String word) {
        return word.startsWith("'") ? (int) word.charAt(1) : Integer.parseInt(word);
    }

    /** README's list of the project's own tests has just those that .ci/run finds. */
    private static void tests(String readme) throws IOException {
        TreeSet<String> found = new TreeSet<>();
        try (DirectoryStream<Path> files = Files.newDirectoryStream(Path.of("src/test/java"), "*Test.java")) {
            for (Path file : files) {
                found.add(file.getFileName().toString().replace(".java", ""));
            }
        }
        TreeSet<String> listed = new TreeSet<>();
        Matcher row = Pattern.compile("(?m)^\\| (\\w+Test) \\|").matcher(readme);
        while (row.find()) {
            listed.add(row.group(1));
        }
        Due.is("the tests that README lists", listed.toString(), found.toString());
    }
}
