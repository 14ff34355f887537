import java.nio.file.Files;
import java.nio.file.Path;
import java.util.regex.Matcher;
import java.util.regex.Pattern;

/** What can be seen of LANGUAGE.md in the text of the class: words it rules out, and how long methods are. */
public final class LanguageTest {
    private static final String[] RULED_OUT = {
        "\\bimport\\b", "\\bpackage\\b", "->", "::", "\\bcatch\\b", "\\btry\\b", "\\bfinally\\b", "\\bthrows?\\b",
        "\\bsynchronized\\b", "\\bassert\\b", "\\bvolatile\\b", "\\bprotected\\b", "\\bvar\\b", "\\bdouble\\b",
        "\\bfloat\\b", "\\w+Exact\\b", "\\bhashCode\\b", "\\btoString\\b", "\\bstatic\\s*\\{",
        "\\bwhile\\b", "\\bSystem\\.(?!arraycopy\\b)", "\\bMath\\.(?!min\\b|max\\b)", "\\bThread\\b"};
    private static final Pattern START = Pattern.compile("^( +)(?!.*\\bclass\\b)(\\w.*\\)|\\w+\\(\\)) \\{$");
    private static final int LONGEST = 60;

    public static void main(String[] args) throws Exception {
        Check check = new Check("LanguageTest");
        String source = Files.readString(Path.of("src/main/java/SkimmedSons.java"));
        String code = source.replaceAll("(?s)/\\*.*?\\*/", "").replaceAll("//[^\n]*", "").replaceAll("\"[^\"\n]*\"", "\"\"");
        for (String word : RULED_OUT) {
            Matcher matcher = Pattern.compile(word).matcher(code);
            check.holds("no " + word + " in the class", !matcher.find());
        }
        check.holds("signs are 1 to 127", source.chars().allMatch(sign -> sign >= 1 && sign <= 127));
        methods(check, source.split("\n"));
        check.end();
    }

    private static void methods(Check check, String[] lines) {
        for (int from = 0; from < lines.length; from++) {
            Matcher start = START.matcher(lines[from]);
            if (!start.find() || start.group(1).length() > 8) {
                continue;
            }
            int to = from;
            while (to < lines.length && !lines[to].equals(start.group(1) + "}")) {
                to++;
            }
            check.holds("some sixty lines at most: " + lines[from].trim(), to - from + 1 <= LONGEST);
        }
    }
}
