import java.io.ByteArrayOutputStream;
import java.io.IOException;
import java.io.PrintStream;
import java.net.URL;
import java.net.URLClassLoader;
import java.nio.file.Path;
import java.util.ArrayList;
import java.util.List;
import java.util.Set;
import java.util.TreeSet;
import java.util.regex.Matcher;
import java.util.regex.Pattern;
import java.util.stream.Stream;
import javax.tools.ToolProvider;

/** What README.md says holds: its examples print what they say, its tables name what there is. */
public final class ReadmeTest {
    private static final Due DUE = new Due();
    private static final Path README = Path.of("README.md");
    private static final Path TESTS = Path.of("src/test/java");
    private static final Pattern PRINTED = Pattern.compile("System\\.out\\.println\\(.*\\); +// (-?\\d+)(:.*)?");

    public static void main(String[] args) throws IOException, ReflectiveOperationException {
        List<String> lines = java.nio.file.Files.readAllLines(README);
        examples(lines);
        kinds(lines);
        faults(lines);
        tests(lines);
        classes(lines);
        DUE.finish();
    }

    private static void examples(List<String> lines) throws IOException, ReflectiveOperationException {
        List<String> code = new ArrayList<>();
        boolean inside = false;
        for (String line : lines) {
            if (line.startsWith("```")) {
                inside = line.equals("```java");
            } else if (inside) {
                code.add(line);
            }
        }
        List<String> due = new ArrayList<>();
        for (String line : code) {
            Matcher matcher = PRINTED.matcher(line.strip());
            boolean tells = matcher.matches();
            DUE.that("what it prints is told: " + line, tells || !line.contains("System.out"));
            if (tells) {
                due.add(matcher.group(1));
            }
        }
        DUE.that("there are examples", due.size() > 10);
        DUE.same("the examples print", String.join(" ", printed(code)), String.join(" ", due));
        for (String name : List.of("make", "set", "fill", "write", "byteAt", "feed", "end", "read", "fault", "about")) {
            DUE.that("an example of " + name, String.join("\n", code).contains("." + name + "("));
        }
    }

    /** What the lines of code print, as one program. */
    private static List<String> printed(List<String> code) throws IOException, ReflectiveOperationException {
        Path folder = java.nio.file.Files.createTempDirectory("readme");
        Path source = folder.resolve("Examples.java");
        java.nio.file.Files.writeString(source, "import java.nio.ByteBuffer;\nimport java.util.Arrays;\n"
            + "public final class Examples {\npublic static void main(String[] args) {\n"
            + String.join("\n", code) + "\n}\n}\n");
        int refused = ToolProvider.getSystemJavaCompiler().run(null, null, null,
            "-cp", System.getProperty("java.class.path"), "-d", folder.toString(), source.toString());
        DUE.same("the compiler for the examples", refused, 0);
        List<String> result = refused == 0 ? run(folder) : List.of();
        for (String name : List.of("Examples.class", "Examples.java", "")) {
            java.nio.file.Files.deleteIfExists(folder.resolve(name));
        }
        return result;
    }

    private static List<String> run(Path folder) throws IOException, ReflectiveOperationException {
        PrintStream before = System.out;
        ByteArrayOutputStream bytes = new ByteArrayOutputStream();
        try (URLClassLoader loader = new URLClassLoader(new URL[] {folder.toUri().toURL()})) {
            System.setOut(new PrintStream(bytes, true));
            loader.loadClass("Examples").getMethod("main", String[].class).invoke(null, (Object) new String[0]);
        } finally {
            System.setOut(before);
        }
        return bytes.toString().lines().toList();
    }

    /** The cells of the table whose head begins with this word. */
    private static List<String[]> table(List<String> lines, String head) {
        List<String[]> result = new ArrayList<>();
        int at = 0;
        while (at < lines.size() && !lines.get(at).startsWith("| " + head + " |")) {
            at++;
        }
        for (int k = at + 2; k < lines.size() && lines.get(k).startsWith("| "); k++) {
            String line = lines.get(k);
            result.add(line.substring(2, line.length() - 2).split(" \\| "));
        }
        DUE.that("a table of " + head, !result.isEmpty());
        return result;
    }

    private static void kinds(List<String> lines) {
        Set<String> told = new TreeSet<>();
        for (String[] cells : table(lines, "kind")) {
            int kind = Integer.parseInt(cells[0]);
            for (String depth : cells[2].split(", ")) {
                told.add(cells[0] + " " + depth);
                PictureFile x = new PictureFile();
                x.make(1, 1, kind, Integer.parseInt(depth), false);
                int samples = cells[1].split(", ").length;
                DUE.same(cells[0] + ": its last sample", x.sample(0, 0, samples - 1), 0);
                DUE.outside(cells[0] + ": one sample more", () -> x.sample(0, 0, samples));
                mostColours(x, cells[3]);
                mostThins(x, cells[4]);
            }
        }
        Set<String> due = new TreeSet<>();
        for (int[] pair : Reference.KINDS) {
            due.add(pair[0] + " " + pair[1]);
        }
        DUE.same("kinds and depths", told.toString(), due.toString());
    }

    private static void mostColours(PictureFile x, String cell) {
        if (cell.equals("none")) {
            DUE.notLet("colours of kind " + x.about(2), () -> x.colour(1, 2, 3));
            return;
        }
        int most = cell.equals("up to 256") ? 256 : 1 << x.about(3);
        DUE.same(cell + ": at first", x.about(5), cell.startsWith("1 ") ? 1 : 0);
        for (int k = x.about(5); k < most; k++) {
            DUE.same(cell, x.colour(1, 2, 3), k + 1);
        }
        DUE.tooMany(cell + ": one more", () -> x.colour(1, 2, 3));
    }

    private static void mostThins(PictureFile x, String cell) {
        if (cell.equals("none")) {
            DUE.notLet("thin numbers of kind " + x.about(2), () -> x.thin(1, 1, 1));
            return;
        }
        DUE.same(cell + ": at first", x.about(6), 0);
        if (cell.startsWith("none or ")) {
            DUE.same(cell, x.thin(1, 1, 1), cell.endsWith("three") ? 3 : 1);
            DUE.same(cell + ": others", x.thin(0, 0, 0), cell.endsWith("three") ? 3 : 1);
            return;
        }
        for (int k = 0; k < x.about(5); k++) {
            DUE.same(cell, x.thin(1, 1, 1), k + 1);
        }
        DUE.tooMany(cell + ": one more", () -> x.thin(1, 1, 1));
    }

    private static void faults(List<String> lines) {
        List<String> told = new ArrayList<>();
        for (String[] cells : table(lines, "code")) {
            told.addAll(List.of(cells[0].split(", ")));
            DUE.same(cells[0] + ": each is told", cells[1].split("; ").length, cells[0].split(", ").length);
        }
        List<String> due = new ArrayList<>();
        for (int code = 1; code <= 31; code++) {
            if (code <= 11 || code >= 20) {
                due.add(Integer.toString(code));
            }
        }
        DUE.same("codes", told.toString(), due.toString());
    }

    private static void tests(List<String> lines) throws IOException {
        Set<String> there = new TreeSet<>();
        try (Stream<Path> files = java.nio.file.Files.list(TESTS)) {
            files.map(file -> file.getFileName().toString()).filter(name -> name.endsWith("Test.java"))
                .forEach(name -> there.add(name.replace(".java", "")));
        }
        DUE.same("tests", names(table(lines, "test")).toString(), there.toString());
    }

    private static void classes(List<String> lines) {
        Set<String> there = new TreeSet<>();
        for (Class<?> inside : PictureFile.class.getDeclaredClasses()) {
            there.add(inside.getSimpleName());
        }
        DUE.same("classes", names(table(lines, "class")).toString(), there.toString());
    }

    /** The names between backticks in first cells. */
    private static Set<String> names(List<String[]> rows) {
        Set<String> result = new TreeSet<>();
        for (String[] cells : rows) {
            for (String name : cells[0].split(", ")) {
                result.add(name.replace("`", ""));
            }
        }
        return result;
    }
}
