import java.lang.reflect.Constructor;
import java.lang.reflect.Field;
import java.lang.reflect.Method;
import java.lang.reflect.Modifier;
import java.nio.file.Files;
import java.nio.file.Path;
import java.util.ArrayList;
import java.util.List;
import java.util.TreeSet;
import java.util.regex.Matcher;
import java.util.regex.Pattern;

/** The class has the document's face and nothing else to be seen, and its text keeps to the plainest of the rules. */
final class FaceTest {
    public static void main(String[] args) throws Exception {
        face();
        rules();
        Due.end("FaceTest");
    }

    private static void face() throws Exception {
        TreeSet<String> want = new TreeSet<>();
        String document = Files.readString(Path.of("../shared/DOC.md"));
        String block = document.substring(document.indexOf("```java"), document.indexOf("## Terms"));
        for (String line : block.split("\n")) {
            if (line.startsWith("    public ")) {
                want.add(line.strip().replaceAll(" [a-z]+([,)])", "$1").replace(";", ""));
            }
        }
        TreeSet<String> got = new TreeSet<>();
        for (Constructor<?> made : Checkdraw.class.getDeclaredConstructors()) {
            got.add("public Checkdraw()" + (made.getParameterCount() == 0 && Modifier.isPublic(made.getModifiers()) ? "" : "?"));
        }
        List<String> privates = new ArrayList<>();
        TreeSet<String> publics = new TreeSet<>();
        for (Method method : Checkdraw.class.getDeclaredMethods()) {
            if (Modifier.isPrivate(method.getModifiers())) {
                privates.add(method.getName());
            } else if (!method.isSynthetic()) {
                got.add(told(method));
                publics.add(method.getName());
            }
        }
        Due.is("the face", got.toString(), want.toString());
        Due.is("how many stand on it", got.size(), 43);
        privates.retainAll(publics);
        Due.is("private methods with a public one's name", privates.toString(), "[]");
        for (Field field : Checkdraw.class.getDeclaredFields()) {
            Due.yes(field + " is private", Modifier.isPrivate(field.getModifiers()));
        }
    }

    private static String told(Method method) {
        StringBuilder text = new StringBuilder();
        text.append(Modifier.toString(method.getModifiers())).append(' ').append(method.getReturnType().getSimpleName());
        text.append(' ').append(method.getName()).append('(');
        String comma = "";
        for (Class<?> type : method.getParameterTypes()) {
            text.append(comma).append(type.getSimpleName());
            comma = ", ";
        }
        text.append(')');
        comma = " throws ";
        for (Class<?> type : method.getExceptionTypes()) {
            text.append(comma).append(type.getSimpleName());
            comma = ", ";
        }
        return text.toString();
    }

    private static void rules() throws Exception {
        String source = Files.readString(Path.of("src/main/java/Checkdraw.java"));
        String code = source.replaceAll("(?s)/\\*.*?\\*/", "").replaceAll("//[^\n]*", "").replaceAll("\"[^\"\n]*\"", "\"\"");
        String[] forbidden = {"->", "::", "\\bfinally\\b", "\\bsynchronized\\b", "\\bassert\\b", "\\btry\\b", "\\bcatch\\b", "\\bpackage\\b", "\\bstatic \\{", "\\bMath\\.\\w*Exact\\b", "\\bSystem\\.(?!arraycopy\\b)", "\\bjava\\.(?!util\\.NoSuchElementException;)", "\\bhashCode\\b", "\\bequals\\b", "\\btoString\\b", "\\bvar\\b"};
        for (String word : forbidden) {
            Matcher found = Pattern.compile(word).matcher(code);
            Due.is("what the rules leave out: " + word, found.find() ? found.group() : "", "");
        }
        for (String line : code.split("\n")) {
            if (line.contains(" static ") && !line.contains("(") && line.contains(";")) {
                Due.yes("a static field is final: " + line.strip(), line.contains(" final "));
            }
        }
        Due.yes("signs of the text", source.chars().allMatch(sign -> sign == '\n' || sign >= 32 && sign < 127));
    }
}
