import java.io.IOException;
import java.lang.reflect.Field;
import java.lang.reflect.Method;
import java.lang.reflect.Modifier;
import java.net.URL;
import java.net.URLClassLoader;
import java.nio.file.Files;
import java.nio.file.Path;
import java.util.ArrayList;
import java.util.List;
import java.util.Map;
import java.util.TreeMap;
import java.util.regex.Matcher;
import java.util.regex.Pattern;
import javax.tools.ToolProvider;

/**
 * README.md tells the truth: its examples compile and answer what stands behind them, and its tables are those of the
 * program. An example's line ends with "// -> answer" or with "// throws Exception", and words behind a colon.
 */
final class ReadmeTest {
    private static final Path PAGE = Path.of("README.md");
    private static final Pattern ANSWER = Pattern.compile(" *(?:(\\w+) (\\w+) = )?(.+); +// -> ([^:]+)(?:: .*)?");
    private static final Pattern THROWN = Pattern.compile(" *(.+); +// throws (\\w+)(?:: .*)?");
    private static final Pattern CONSTANT = Pattern.compile("\\| `([A-Z_]+)` \\| (-?\\d+) \\|.*");
    private static final String TABLE = "| call |";

    public static void main(String[] args) throws IOException, ReflectiveOperationException {
        List<String> page = Files.readAllLines(PAGE);
        examples(page);
        constants(page);
        calls(String.join(" ", page));
        exceptions(page);
        Check.finish();
    }

    // ---- Examples

    private static void examples(List<String> page) throws IOException, ReflectiveOperationException {
        Path folder = Files.createTempDirectory("readme");
        Path source = folder.resolve("ReadmeExamples.java");
        Path compiled = folder.resolve("ReadmeExamples.class");
        try {
            Files.writeString(source, program(page));
            int failed = ToolProvider.getSystemJavaCompiler().run(null, null, null, "-d", folder.toString(),
                    "-cp", System.getProperty("java.class.path"), source.toString());
            Check.is("README: the examples compile", 0, failed);
            if (failed == 0) {
                answers(folder.toUri().toURL());
            }
        } finally {
            Files.deleteIfExists(source);
            Files.deleteIfExists(compiled);
            Files.deleteIfExists(folder);
        }
    }

    private static void answers(URL folder) throws IOException, ReflectiveOperationException {
        int count = 0;
        try (URLClassLoader loader = new URLClassLoader(new URL[] {folder})) {
            Method run = loader.loadClass("ReadmeExamples").getMethod("told");
            for (Object line : (List<?>) run.invoke(null)) {
                String[] told = (String[]) line;
                Check.same("README, line " + told[0], told[1], told[2]);
                count++;
            }
        }
        Check.yes("README: there are examples", count > 60);
    }

    /** A class that goes through the examples, each in a block of its own, and lists line, due and answer. */
    private static String program(List<String> page) {
        StringBuilder text = new StringBuilder("public class ReadmeExamples {\n"
                + "public static java.util.List<String[]> told() {\n"
                + "java.util.List<String[]> told = new java.util.ArrayList<>();\n");
        boolean inside = false;
        for (int line = 0; line < page.size(); line++) {
            String written = page.get(line);
            if (written.startsWith("```")) {
                boolean begins = written.equals("```java");
                text.append(begins ? "{\n" : inside ? "}\n" : "");
                inside = begins;
            } else if (inside) {
                text.append(statement(line + 1, written)).append('\n');
            }
        }
        return text.append("return told;\n}\n}\n").toString();
    }

    private static String statement(int line, String written) {
        Matcher answer = ANSWER.matcher(written);
        if (answer.matches()) {
            String type = answer.group(1);
            String name = answer.group(2);
            String call = answer.group(3);
            return type == null ? looked(line, "\"\" + (" + answer.group(4) + ")", call)
                    : type + " " + name + " = " + call + "; " + looked(line, "\"\" + (" + answer.group(4) + ")", name);
        }
        Matcher thrown = THROWN.matcher(written);
        if (thrown.matches()) {
            String due = "\"throws " + thrown.group(2) + "\"";
            return "try { " + looked(line, due, thrown.group(1)) + " } catch (RuntimeException thrown) { "
                    + looked(line, due, "\"throws \" + thrown.getClass().getSimpleName()") + " }";
        }
        Check.no("README, line " + line + " tells no answer: " + written, written.contains("//"));
        return written;
    }

    private static String looked(int line, String due, String answer) {
        return "told.add(new String[] {\"" + line + "\", " + due + ", \"\" + (" + answer + ")});";
    }

    // ---- Tables

    private static void constants(List<String> page) throws IllegalAccessException {
        List<String> told = new ArrayList<>();
        for (String line : page) {
            Matcher row = CONSTANT.matcher(line);
            if (row.matches()) {
                told.add(row.group(1) + "=" + row.group(2));
            }
        }
        List<String> due = new ArrayList<>();
        for (Field field : KnightPairChess.class.getDeclaredFields()) {
            if (Modifier.isPublic(field.getModifiers())) {
                due.add(field.getName() + "=" + field.get(null));
            }
        }
        told.sort(null);
        due.sort(null);
        Check.same("README: the constants", due, told);
    }

    private static void calls(String page) {
        for (Method method : KnightPairChess.class.getDeclaredMethods()) {
            if (Modifier.isPublic(method.getModifiers())) {
                Check.yes("README names " + method.getName(), page.contains("`" + method.getName() + "`"));
            }
        }
    }

    private static void exceptions(List<String> page) {
        Map<String, String> told = new TreeMap<>();
        String[] header = new String[0];
        for (String line : page) {
            String[] cells = line.replace("`", "").split(" *\\| *", -1);
            if (line.startsWith(TABLE)) {
                header = cells;
            } else if (line.startsWith("| `") && header.length > 0) {
                told.put(cells[1], thrownIn(header, cells));
            }
        }
        Map<String, String> due = new TreeMap<>();
        for (Method method : KnightPairChess.class.getDeclaredMethods()) {
            if (Modifier.isPublic(method.getModifiers()) && method.getExceptionTypes().length > 0) {
                StringBuilder names = new StringBuilder();
                for (Class<?> thrown : method.getExceptionTypes()) {
                    names.append(thrown.getSimpleName()).append(' ');
                }
                due.put(method.getName(), names.toString());
            }
        }
        Check.same("README: the exceptions, in their order", due, told);
    }

    private static String thrownIn(String[] header, String[] cells) {
        StringBuilder names = new StringBuilder();
        for (int column = 2; column < header.length - 1; column++) {
            names.append(cells[column].isEmpty() ? "" : header[column] + " ");
        }
        return names.toString();
    }
}
