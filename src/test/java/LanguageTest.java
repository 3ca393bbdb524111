import java.io.IOException;
import java.nio.charset.StandardCharsets;
import java.nio.file.Files;
import java.nio.file.Path;
import java.util.regex.Matcher;
import java.util.regex.Pattern;

/** What of ../shared/LANGUAGE.md can be seen from the words of the program alone. */
public final class LanguageTest {
    private static final Check CHECK = new Check("LanguageTest");

    public static void main(String[] args) throws IOException {
        String source = Files.readString(Path.of("src/main/java/LittleLeft.java"), StandardCharsets.ISO_8859_1);
        String code = source.replaceAll("(?s)/\\*.*?\\*/", "").replaceAll("//[^\n]*", "");
        String words = code.replaceAll("'(\\\\.|[^'\\\\])'", "0").replaceAll("\"[^\"]*\"", "TEXT");
        signs(source);
        forbidden(words);
        methods(words);
        CHECK.end();
    }

    private static void due(String what, boolean holds) {
        CHECK.due(what, holds ? 1 : 0, 1);
    }

    private static void signs(String source) {
        boolean plain = true;
        for (int i = 0; i < source.length(); i++) {
            char c = source.charAt(i);
            plain &= c == '\n' || c >= 32 && c < 127;
        }
        due("signs 1 to 127 alone", plain);
    }

    private static void forbidden(String words) {
        String[] none = {"\\bthrow\\b", "\\btry\\b", "\\bcatch\\b", "\\bsynchronized\\b", "\\bassert\\b", "->", "::",
            "\\bpackage\\b", "\\bdouble\\b", "\\bfloat\\b", "\\bequals\\(", "hashCode", "toString", "Exact\\(",
            "\\bThread\\b", "\\bRandom\\b", "nanoTime", "currentTimeMillis", "TEXT *\\+", "\\+ *TEXT",
            "import (?!java\\.util\\.Arrays;)", "Arrays\\.(?!fill\\(|copyOf)", "Math\\.(?!min\\(|max\\()",
            "while *\\("};
        for (String one : none) {
            Matcher m = Pattern.compile(one).matcher(words);
            due("no " + one, !m.find());
        }
    }

    private static void methods(String words) {
        Matcher m = Pattern.compile("(?m)^ +[a-zA-Z\\[\\] ]*?[a-zA-Z]+ ?\\(([^()]*)\\) \\{$").matcher(words);
        int methods = 0;
        while (m.find()) {
            if (m.group().matches("(?s).*\\b(for|if|switch|else)\\b.*")) {
                continue;
            }
            methods++;
            due(m.group() + ": seven parameters at most", m.group(1).split(",").length <= 7);
            due(m.group() + ": sixty lines at most", lines(words, m.end()) <= 60);
        }
        due("methods are found", methods > 60);
    }

    private static int lines(String words, int from) {
        int open = 1;
        int lines = 1;
        for (int i = from; i < words.length() && open > 0; i++) {
            char c = words.charAt(i);
            open += c == '{' ? 1 : c == '}' ? -1 : 0;
            lines += c == '\n' ? 1 : 0;
        }
        return lines;
    }
}
