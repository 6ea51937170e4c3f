import java.io.IOException;
import java.nio.file.Files;
import java.nio.file.Path;
import java.util.regex.Matcher;
import java.util.regex.Pattern;

/** Words that LANGUAGE.md rules out do not stand in the class; run from the project's root, as .ci/run does. */
final class LanguageTest {
    private static final String[] RULED_OUT = {
        "\\bthrow\\b", "\\btry\\b", "\\bcatch\\b", "\\bsynchronized\\b", "\\bassert\\b", "\\bimport\\b", "\\bpackage\\b", "->", "::",
        "\\bprotected\\b", "\\bObject\\b", "\\bSystem\\.(?!arraycopy)", "\\bThread\\b", "\\bRandom\\b", "Exact\\b", "\\bequals\\b", "\\bhashCode\\b",
        "\\btoString\\b", "\\bstatic\\s*\\{", "\\bvar\\b"
    };

    public static void main(String[] args) throws IOException {
        String source = Files.readString(Path.of("src/main/java/WireBus.java"));
        String code = source.replaceAll("(?s)/\\*.*?\\*/", "").replaceAll("//[^\\n]*", "");
        for (String pattern : RULED_OUT) {
            Check.due(pattern + " stands there", Pattern.compile(pattern).matcher(code).find(), false);
        }
        Check.due("only one public class", count(code, "\\bpublic\\b[^(;=]*\\bclass\\b"), 1);
        methodsAreShort(code);
        Check.finish();
    }

    private static int count(String code, String pattern) {
        Matcher m = Pattern.compile(pattern).matcher(code);
        int n = 0;
        while (m.find()) {
            n++;
        }
        return n;
    }

    /** A method's last line is the first brace that stands as far in as its head. */
    private static void methodsAreShort(String code) {
        String[] lines = code.split("\\n");
        for (int i = 0; i < lines.length; i++) {
            if (lines[i].matches("( {4}| {8})[\\w\\[\\]]+( [\\w\\[\\]]+)*\\(.*\\) \\{") && !lines[i].matches(" *(if|for|while|switch|else).*")) {
                String indent = lines[i].replaceAll("\\S.*", "");
                int end = i + 1;
                while (end < lines.length && !lines[end].equals(indent + "}")) {
                    end++;
                }
                Check.due("lines of" + lines[i] + " are at most 60", end - i <= 60, true);
            }
        }
    }
}
