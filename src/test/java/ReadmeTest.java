import java.io.IOException;
import java.lang.reflect.Method;
import java.lang.reflect.Modifier;
import java.net.URI;
import java.net.URL;
import java.net.URLClassLoader;
import java.nio.file.Files;
import java.nio.file.Path;
import java.util.List;
import java.util.Set;
import java.util.TreeSet;
import java.util.regex.Matcher;
import java.util.regex.Pattern;
import java.util.stream.Stream;
import javax.tools.JavaCompiler;
import javax.tools.JavaFileObject;
import javax.tools.SimpleJavaFileObject;
import javax.tools.ToolProvider;

/** README.md: its examples answer what stands behind them, its table has the whole face, and each refusal is shown. */
public final class ReadmeTest {
    private static final Pattern BLOCK = Pattern.compile("```java\n(.*?)```", Pattern.DOTALL);
    private static final Pattern ANSWERED = Pattern.compile("^(\\S.*);\\s*// = (-?\\w+)(:.*)?$");
    private static final Pattern ROW = Pattern.compile("^\\| `(\\w+)\\((.*?)\\)` \\|(.*)\\|(.*)\\|$");
    private static final Pattern REFUSED = Pattern.compile("^r\\.(\\w+)\\(.*\\);\\s*// = (\\S+):.*$");
    private static int wrong;
    private static int answers;

    private ReadmeTest() {
    }

    public static void main(String[] args) throws Exception {
        String page = Files.readString(Path.of("README.md"));
        holdTable(page);
        runExamples(page);
        System.out.println(wrong == 0 ? answers + " answers of README.md are as due" : wrong + " are not as due");
        if (wrong > 0) {
            System.exit(1);
        }
    }

    /** Called by the examples, too. */
    public static void due(String what, Object got, Object want) {
        answers++;
        if (!String.valueOf(got).equals(String.valueOf(want))) {
            wrong++;
            System.out.println(what + ": " + got + ", README.md says " + want);
        }
    }

    private static void holdTable(String page) {
        Set<String> rows = new TreeSet<>();
        Set<String> refusals = new TreeSet<>();
        for (String line : page.split("\n")) {
            Matcher row = ROW.matcher(line);
            if (row.matches()) {
                int takes = row.group(2).isEmpty() ? 0 : row.group(2).split(", ").length;
                rows.add(row.group(1) + "/" + takes);
                for (String answer : row.group(4).strip().split("; ")) {
                    refusals.add(row.group(1) + " " + answer.replace("`", "").replaceFirst(":.*", ""));
                }
            }
        }
        Set<String> face = new TreeSet<>();
        for (Method m : CliffGarden.class.getDeclaredMethods()) {
            if (Modifier.isPublic(m.getModifiers())) {
                face.add(m.getName() + "/" + m.getParameterCount());
            }
        }
        due("the table's calls", rows, face);
        holdRefusals(page, refusals);
    }

    /** Every answer that the table calls a refusal is shown by an example on the object r, and no other is. */
    private static void holdRefusals(String page, Set<String> refusals) {
        Set<String> shown = new TreeSet<>(Set.of("water never", "go never", "day never"));
        for (String line : page.split("\n")) {
            Matcher refused = REFUSED.matcher(line);
            if (refused.matches() && !refused.group(2).equals("true")) {
                shown.add(refused.group(1) + " " + refused.group(2));
            }
        }
        due("refusals that are shown", shown, refusals);
    }

    private static void runExamples(String page) throws Exception {
        StringBuilder members = new StringBuilder();
        StringBuilder body = new StringBuilder();
        Matcher block = BLOCK.matcher(page);
        while (block.find()) {
            if (block.group(1).startsWith("static ")) {
                members.append(block.group(1));
                continue;
            }
            for (String line : block.group(1).split("\n")) {
                body.append(asCheck(line)).append('\n');
            }
        }
        String source = "public final class Examples {\n" + members + "public static void run() {\n" + body + "}\n}\n";
        Path out = Files.createTempDirectory("readme");
        try {
            compile(source, out);
            try (URLClassLoader loader = new URLClassLoader(new URL[] {out.toUri().toURL()})) {
                loader.loadClass("Examples").getMethod("run").invoke(null);
            }
        } finally {
            remove(out);
        }
    }

    private static String asCheck(String line) {
        Matcher m = ANSWERED.matcher(line);
        if (!m.matches()) {
            return line;
        }
        String call = m.group(1);
        return "ReadmeTest.due(\"" + call.replace("\"", "\\\"") + "\", " + call + ", " + m.group(2) + ");";
    }

    private static void compile(String source, Path out) {
        JavaCompiler javac = ToolProvider.getSystemJavaCompiler();
        JavaFileObject file = new SimpleJavaFileObject(URI.create("string:///Examples.java"),
                JavaFileObject.Kind.SOURCE) {
            @Override
            public CharSequence getCharContent(boolean ignoreErrors) {
                return source;
            }
        };
        List<String> options = List.of("-proc:none", "-cp", System.getProperty("java.class.path"), "-d",
                out.toString());
        if (!javac.getTask(null, null, null, options, null, List.of(file)).call()) {
            throw new IllegalStateException("README.md's examples can't be compiled");
        }
    }

    private static void remove(Path directory) throws IOException {
        try (Stream<Path> files = Files.list(directory)) {
            for (Path file : files.toList()) {
                Files.delete(file);
            }
        }
        Files.delete(directory);
    }
}
