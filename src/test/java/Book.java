import java.io.IOException;
import java.io.UncheckedIOException;
import java.nio.charset.StandardCharsets;
import java.nio.file.Files;
import java.nio.file.Path;
import java.util.LinkedHashMap;
import java.util.Map;

/**
 * The document by sections, and which of its words some test has quoted. A quote that the document does not hold is
 * wrong, and so is every word that no test has quoted: so a sentence can't be left without a test of its own.
 */
final class Book {
    private static final Map<String, String> SECTIONS = new LinkedHashMap<>();
    private static final Map<String, boolean[]> QUOTED = new LinkedHashMap<>();
    private static String sentence = "";
    private static int sentences;
    private static int asked;
    private static int wrong;

    private Book() {
    }

    static void open(Path place) {
        String name = "";
        boolean fenced = false;
        try {
            for (String line : Files.readAllLines(place, StandardCharsets.UTF_8)) {
                if (line.startsWith("## ")) {
                    name = line.substring(3).replaceAll(":.*", "");
                } else if (line.startsWith("```")) {
                    fenced = line.equals("```java");
                } else if (!fenced) {
                    SECTIONS.merge(name, line, (a, b) -> a + " " + b);
                }
            }
        } catch (IOException e) {
            throw new UncheckedIOException(e);
        }
        SECTIONS.replaceAll((key, text) -> plain(text.replaceAll("^\\s*`[^`]*`: ", "")));
        SECTIONS.forEach((key, text) -> QUOTED.put(key, new boolean[text.length()]));
    }

    private static String plain(String text) {
        return text.replaceAll("\\s+", " ").trim();
    }

    static void terms(String quote, Runnable test) {
        says("Terms", quote, test);
    }

    static void promise(int n, String quote, Runnable test) {
        says("Promise " + n, quote, test);
    }

    static void says(String section, String quote, Runnable test) {
        sentences++;
        sentence = section + ", '" + quote + "'";
        String text = SECTIONS.getOrDefault(section, "");
        int at = text.indexOf(plain(quote));
        if (at < 0) {
            tellWrong("the document does not say so");
        } else {
            java.util.Arrays.fill(QUOTED.get(section), at, at + plain(quote).length(), true);
        }
        int before = asked;
        test.run();
        if (asked == before) {
            tellWrong("nothing was asked");
        }
    }

    static void due(String call, long got, long want) {
        asked++;
        if (got != want) {
            tellWrong(call + " answered " + got + ", due is " + want);
        }
    }

    static void due(String call, boolean got, boolean want) {
        due(call, got ? 1 : 0, want ? 1 : 0);
    }

    private static void tellWrong(String what) {
        wrong++;
        System.out.println(sentence + ": " + what);
    }

    /** True if all was as due, and nothing of the sections that promise something was left out. */
    static boolean close() {
        SECTIONS.forEach((name, text) -> {
            if (name.equals("Terms") || name.startsWith("Promise ")) {
                tellUnquoted(name, text, QUOTED.get(name));
            }
        });
        if (wrong == 0) {
            System.out.println(sentences + " sentences, " + asked + " answers are as due");
        } else {
            System.out.println(wrong + " are not as due");
        }
        return wrong == 0;
    }

    private static void tellUnquoted(String name, String text, boolean[] quoted) {
        int from = 0;
        while (from < text.length()) {
            int to = from;
            while (to < text.length() && quoted[to] == quoted[from]) {
                to++;
            }
            String part = text.substring(from, to);
            if (!quoted[from] && part.chars().anyMatch(Character::isLetterOrDigit)) {
                sentence = name;
                tellWrong("no test for '" + part.trim() + "'");
            }
            from = to;
        }
    }
}
