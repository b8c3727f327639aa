import java.lang.reflect.Method;
import java.net.URL;
import java.net.URLClassLoader;
import java.nio.file.DirectoryStream;
import java.nio.file.Files;
import java.nio.file.Path;
import java.util.ArrayList;
import java.util.List;
import java.util.TreeSet;
import java.util.regex.Matcher;
import java.util.regex.Pattern;
import javax.tools.ToolProvider;

/** What README.md shows is compiled and run as it stands there; each row's answer is the number behind it. */
public final class ReadmeTest {
    private static final Pattern BLOCK = Pattern.compile("(?s)```java\n(.*?)```");
    private static final Pattern ROW = Pattern.compile("(x\\.\\w+\\(.*\\)); *// (-?\\d+|[A-Z]+)\\b.*");
    private static final Pattern TEST = Pattern.compile("(?m)^\\| (\\w+Test) \\|");

    public static void main(String[] args) throws Exception {
        String readme = Files.readString(Path.of("README.md"));
        shownRows(readme);
        listedTests(readme);
        Check.end();
    }

    private static void shownRows(String readme) throws Exception {
        List<Object[]> got = new ArrayList<>();
        runOf(sourceOf(readme)).invoke(null, got);
        Check.due("README.md shows rows", got.size() > 0 ? 1 : 0, 1);
        for (Object[] row : got) {
            Check.due("README.md: " + row[0], (Long) row[1], (Long) row[2]);
        }
    }

    private static String sourceOf(String readme) {
        StringBuilder code = new StringBuilder("public final class Shown {\n");
        code.append("static final int NONE = RolledUp.NONE, BAD = RolledUp.BAD, STATE = RolledUp.STATE, FULL = RolledUp.FULL;\n");
        code.append("static final long NO = RolledUp.NO;\n");
        code.append("public static void run(java.util.List<Object[]> got) {\n");
        Matcher block = BLOCK.matcher(readme);
        while (block.find()) {
            code.append("{\n");
            for (String line : block.group(1).split("\n")) {
                code.append(rowOf(line)).append("\n");
            }
            code.append("}\n");
        }
        return code.append("}\n}\n").toString();
    }

    private static String rowOf(String line) {
        Matcher row = ROW.matcher(line);
        if (!row.matches()) {
            Check.due("README.md: a row that tells no answer is none of x's: " + line, line.startsWith("x.") ? 1 : 0, 0);
            return line;
        }
        return "got.add(new Object[] {\"" + row.group(1) + "\", (long) " + row.group(1) + ", (long) (" + row.group(2) + ")});";
    }

    private static Method runOf(String source) throws Exception {
        Path dir = Files.createTempDirectory("readme");
        Path file = dir.resolve("Shown.java");
        Files.writeString(file, source);
        int failed = ToolProvider.getSystemJavaCompiler().run(null, null, null,
            "-cp", System.getProperty("java.class.path"), "-d", dir.toString(), file.toString());
        Check.due("what README.md shows compiles", failed, 0);
        Method run;
        try (URLClassLoader loader = new URLClassLoader(new URL[] {dir.toUri().toURL()})) {
            run = loader.loadClass("Shown").getMethod("run", List.class);
        }
        for (String name : dir.toFile().list()) {
            Files.delete(dir.resolve(name));
        }
        Files.delete(dir);
        return run;
    }

    private static void listedTests(String readme) throws Exception {
        TreeSet<String> listed = new TreeSet<>();
        Matcher test = TEST.matcher(readme);
        while (test.find()) {
            listed.add(test.group(1));
        }
        TreeSet<String> there = new TreeSet<>();
        try (DirectoryStream<Path> files = Files.newDirectoryStream(Path.of("src/test/java"), "*Test.java")) {
            for (Path file : files) {
                there.add(file.getFileName().toString().replace(".java", ""));
            }
        }
        Check.due("README.md lists the tests " + there + ", it has " + listed, listed.equals(there) ? 1 : 0, 1);
    }
}
