import java.io.IOException;
import java.nio.file.DirectoryStream;
import java.nio.file.Files;
import java.nio.file.Path;
import java.util.Set;
import java.util.TreeSet;
import java.util.regex.Matcher;
import java.util.regex.Pattern;

/** Each promise, and each of the Terms, has tests of its sentences; run from the project's root, as .ci/run does. */
final class PromisesTest {
    private static final int PROMISES = 19;

    public static void main(String[] args) throws IOException {
        Set<String> headings = new TreeSet<>();
        try (DirectoryStream<Path> files = Files.newDirectoryStream(Path.of("src/test/java"), "*Test.java")) {
            for (Path file : files) {
                Matcher m = Pattern.compile("Check\\.of\\(\"([^\"]*)\"").matcher(Files.readString(file));
                while (m.find()) {
                    headings.addAll(Set.of(m.group(1).split(", ")));
                }
            }
        }
        for (int promise = 1; promise <= PROMISES; promise++) {
            Check.due("Promise " + promise + " has a test", headings.contains("Promise " + promise), true);
        }
        for (String terms : new String[] {"Terms I", "Terms II", "Terms III"}) {
            Check.due(terms + " have a test", headings.contains(terms), true);
        }
        Check.finish();
    }
}
