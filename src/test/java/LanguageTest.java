import java.io.IOException;
import java.nio.file.Files;
import java.nio.file.Path;
import java.util.regex.Matcher;
import java.util.regex.Pattern;

/** Rules of LANGUAGE.md that can be seen in the text of the class. */
public final class LanguageTest {
    private static final String[] BARRED = {
        "\\bpackage\\b", "\\btry\\b", "\\bcatch\\b", "\\bfinally\\b", "->", "::", "\\bassert\\b", "\\bsynchronized\\b",
        "\\bprotected\\b", "\\binstanceof\\b", "\\bnull\\b", "static \\{", "\\bSystem\\.(?!arraycopy)", "Exact\\(",
        "\\bthrow (?!new \\w+\\(\"[^\"]*\"\\);)", "import (?!java\\.util\\.Arrays;)",
        "private [^=;(]*\\b(feed|read|lenient|dropped|node|sign|print|out|word|clear|fits|worth|ratio|why|rank)\\(",
    };
    private static final int LONGEST_METHOD = 60;

    public static void main(String[] args) throws IOException {
        Due due = new Due();
        String text = Files.readString(Path.of("src/main/java/QueryTexts.java"));
        String code = text.replaceAll("(?s)/\\*.*?\\*/", "").replaceAll("//[^\n]*", "");
        for (String barred : BARRED) {
            Matcher found = Pattern.compile(barred).matcher(code);
            due.hold("there is no " + barred, !found.find());
        }
        due.hold("there are twelve classes at most", code.split("\\bclass\\b").length - 1 <= 12);
        Matcher method = Pattern.compile("(?m)^( +)[\\w<>\\[\\] ]+\\([^;{]*\\{$").matcher(code);
        while (method.find()) {
            int end = code.indexOf("\n" + method.group(1) + "}", method.start());
            long lines = code.substring(method.start(), end).lines().count();
            due.hold("short enough: " + method.group().trim(), lines <= LONGEST_METHOD);
        }
        due.end();
    }
}
