import java.io.IOException;
import java.nio.file.Files;
import java.nio.file.Path;
import java.util.regex.Matcher;
import java.util.regex.Pattern;

/** What ../shared/LANGUAGE.md rules out and a glance at the words can tell. */
public final class LanguageTest {
    private static final String[] RULED_OUT = {
        "\\b(throw|throws|try|catch|synchronized|assert|goto|native|volatile|transient)\\b", "->", "::", "\\w+Exact\\b",
        "\\bstatic\\s*\\{", "\\b(package|protected)\\b", "\\b(System\\.(?!arraycopy)\\w+|Thread|Random|Object)\\b",
        "\\b(hashCode|toString|equals)\\b", "[^\\x00-\\x7F]",
    };

    private static int wrong = 0;

    public static void main(String[] args) throws IOException {
        String source = Files.readString(Path.of("src/main/java/FreshShares.java"));
        String code = source.replaceAll("(?s)/\\*.*?\\*/", " ").replaceAll("//[^\\n]*", " ");
        for (String words : RULED_OUT) {
            Matcher found = Pattern.compile(words).matcher(code);
            while (found.find()) {
                report("'" + found.group() + "' is ruled out");
            }
        }
        Matcher imported = Pattern.compile("\\bimport\\s+([^;]+);").matcher(code);
        while (imported.find()) {
            if (!imported.group(1).equals("java.util.Arrays")) {
                report("import of " + imported.group(1));
            }
        }
        Matcher field = Pattern.compile("\\bstatic\\s+(?!final\\b)[\\w\\[\\]]+\\s+\\w+\\s*[=;,]").matcher(code);
        while (field.find()) {
            report("a static field that is not final: " + field.group());
        }
        System.out.println(wrong == 0 ? "no word that is ruled out" : wrong + " things are ruled out");
        if (wrong != 0) {
            System.exit(1);
        }
    }

    private static void report(String what) {
        wrong++;
        System.out.println(what);
    }
}
