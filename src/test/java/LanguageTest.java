import java.io.IOException;
import java.nio.file.Files;
import java.nio.file.Path;
import java.util.regex.Matcher;
import java.util.regex.Pattern;

/** The rules of LANGUAGE.md that can be seen in the text of the class; it runs in the project's folder. */
public final class LanguageTest {
    private static final Check check = new Check();
    private static final String[] NO_WORDS = {
        "throw", "throws", "try", "catch", "finally", "synchronized", "assert", "import", "package", "lambda", "protected",
        "System.out", "System.exit", "System.nanoTime", "System.currentTimeMillis", "Thread", "Random", "Object",
        "hashCode", "equals", "toString", "volatile", "transient", "native",
    };
    private static final String[] NO_SIGNS = {"->", "::", "@"};

    public static void main(String[] args) throws IOException {
        String text = Files.readString(Path.of("src/main/java/EndedByOthers.java"));
        String code = text.replaceAll("(?s)/\\*.*?\\*/", " ").replaceAll("//[^\n]*", " ");
        for (String word : NO_WORDS) {
            check.holds("no " + word, !Pattern.compile("\\b" + Pattern.quote(word) + "\\b").matcher(code).find());
        }
        for (String sign : NO_SIGNS) {
            check.holds("no " + sign, !code.contains(sign));
        }
        check.holds("signs 1 to 126 alone", text.chars().allMatch(c -> c > 0 && c < 127));
        for (Matcher made = Pattern.compile("\\bnew\\b").matcher(code); made.find();) {
            check.holds("made in a constructor or as a row of a field: " + line(code, made.start()),
                    line(code, made.start()).matches("\\s*(final )?\\S+( \\S+)? = new \\w+(\\(\\)|\\[\\w+\\]);\\s*"));
        }
        for (Matcher nested = Pattern.compile("\\bclass\\b").matcher(code); nested.find();) {
            String line = line(code, nested.start());
            check.holds("static, but for the one: " + line,
                    line.contains("public final class EndedByOthers") || line.contains("private static final class"));
        }
        check.finish("LanguageTest");
    }

    private static String line(String code, int place) {
        int from = code.lastIndexOf('\n', place) + 1;
        int to = code.indexOf('\n', place);
        return code.substring(from, to < 0 ? code.length() : to);
    }
}
