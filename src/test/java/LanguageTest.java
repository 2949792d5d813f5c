import java.io.IOException;
import java.lang.reflect.Field;
import java.lang.reflect.Method;
import java.lang.reflect.Modifier;
import java.nio.file.Path;
import java.util.List;

/** Rules of LANGUAGE.md that can be seen in the program's text and classes. */
public final class LanguageTest {
    private static final Due DUE = new Due();
    private static final Path PROGRAM = Path.of("src/main/java/PictureFile.java");
    private static final int MOST_LINES = 60;
    private static final int MOST_PARAMETERS = 7;
    private static final int MOST_CLASSES = 12;
    private static final int MOST_FIELDS = 20;

    private static final String[] NOT_LET_IN = {
        "->", "::", "package ", "synchronized", "assert ", "finally", "try ", "catch ", "Exact(", "float ", "double ",
        "instanceof", "Thread", "Random", "nanoTime", "currentTime", "System.out", "System.in", "java.io", "java.nio",
        "static {", "getMessage", "hashCode", "toString", "native "};

    public static void main(String[] args) throws IOException {
        List<String> lines = java.nio.file.Files.readAllLines(PROGRAM);
        words(lines);
        lengths(lines);
        List<Class<?>> classes = new java.util.ArrayList<>(List.of(PictureFile.class.getDeclaredClasses()));
        DUE.that("classes: " + classes.size(), classes.size() + 1 <= MOST_CLASSES);
        classes.add(PictureFile.class);
        for (Class<?> one : classes) {
            fields(one);
            for (Method method : one.getDeclaredMethods()) {
                DUE.that(method + ": parameters", method.getParameterCount() <= MOST_PARAMETERS);
            }
        }
        DUE.finish();
    }

    private static void words(List<String> lines) {
        for (String line : lines) {
            String text = line.strip();
            boolean comment = text.startsWith("*") || text.startsWith("/") || text.contains("//");
            for (String word : NOT_LET_IN) {
                DUE.that(word + " in: " + text, comment || !text.contains(word));
            }
            boolean library = text.startsWith("import") && !text.equals("import java.util.Arrays;");
            DUE.that("another library: " + text, !library);
            boolean made = text.contains("throw new") && !text.matches(".*throw new \\w+\\(\\);");
            DUE.that("another exception: " + text, !made);
        }
    }

    /** A method begins with an indented line that ends with a brace and goes to the brace at that place. */
    private static void lengths(List<String> lines) {
        int methods = 0;
        for (int k = 0; k < lines.size(); k++) {
            String line = lines.get(k);
            boolean method = line.matches(" {4,8}[\\w ]*\\w+\\(.*") && !line.strip().matches("(if|for|while|switch|return).*")
                && !line.strip().startsWith("new") && !line.strip().endsWith(";");
            if (method) {
                String end = line.substring(0, line.length() - line.stripLeading().length()) + "}";
                int last = k;
                while (last < lines.size() && !lines.get(last).equals(end)) {
                    last++;
                }
                DUE.that("lines of " + line.strip(), last - k < MOST_LINES);
                methods++;
            }
        }
        DUE.that("methods are found: " + methods, methods > 80);
    }

    private static void fields(Class<?> one) {
        int fields = 0;
        for (Field field : one.getDeclaredFields()) {
            boolean constant = Modifier.isStatic(field.getModifiers());
            fields += constant ? 0 : 1;
            DUE.that(field + ": no static state", !constant || Modifier.isFinal(field.getModifiers()));
        }
        DUE.that(one + ": fields " + fields, fields <= MOST_FIELDS);
    }
}
