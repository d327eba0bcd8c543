import java.io.IOException;
import java.nio.charset.StandardCharsets;
import java.nio.file.Files;
import java.nio.file.Path;
import java.util.Set;
import java.util.TreeSet;
import java.util.regex.Matcher;
import java.util.regex.Pattern;

/** What LANGUAGE.md forbids, as far as the words of the source show it. */
public final class LanguageTest {
    /** By rule: 2, 4, 5, 6 and 13. */
    private static final String[] NEVER = {
        "->", "::", "\\bimport\\b", "\\bpackage\\b", "\\bjava\\.", "Exact\\b", "\\bstatic\\s*\\{",
        "\\bthrow\\b", "\\bthrows\\b", "\\btry\\b", "\\bcatch\\b", "\\bfinally\\b",
        "\\bsynchronized\\b", "\\bassert\\b", "\\bequals\\b", "\\bhashCode\\b", "\\btoString\\b",
        "\\bThread\\b", "\\bRandom\\b", "\\bObject\\b", "\\bvar\\b", "\\bnative\\b", "\\bvolatile\\b"};

    public static void main(String[] args) throws IOException {
        String source = Files.readString(Path.of("src/main/java/WireMoney.java"), StandardCharsets.ISO_8859_1);
        String code = source.replaceAll("(?s)/\\*.*?\\*/", " ").replaceAll("//[^\\n]*", " ");
        for (String word : NEVER) {
            Check.no("the source has " + word, Pattern.compile(word).matcher(code).find());
        }
        libraryIsMathAlone(code);
        methodsAreShort(source);
        Check.yes("plain characters alone", source.chars().allMatch(c -> c < 127));
        Check.end("LanguageTest");
    }

    private static void libraryIsMathAlone(String code) {
        Set<String> calls = new TreeSet<>();
        Matcher m = Pattern.compile("\\b([A-Z][a-z]\\w*)\\.(\\w+)").matcher(code);
        while (m.find()) {
            calls.add(m.group(1) + "." + m.group(2));
        }
        calls.remove("Math.min");
        calls.remove("Math.max");
        Check.yes("no library but Math.min and Math.max: " + calls, calls.isEmpty());
    }

    /** A method's first line ends with "{" and its last one is "}" at the same depth. */
    private static void methodsAreShort(String source) {
        String[] lines = source.split("\n");
        for (int i = 0; i < lines.length; i++) {
            Matcher head = Pattern.compile("^( {4}| {8})(?! )(?!.*\\bclass\\b).*\\{$").matcher(lines[i]);
            if (!head.find()) {
                continue;
            }
            int end = i;
            while (end < lines.length && !lines[end].equals(head.group(1) + "}")) {
                end++;
            }
            Check.yes("short: " + lines[i].trim(), end - i <= 60);
        }
    }
}
