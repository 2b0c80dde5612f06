import java.io.IOException;
import java.nio.file.Files;
import java.nio.file.Path;
import java.util.ArrayList;
import java.util.List;
import java.util.regex.Matcher;
import java.util.regex.Pattern;

/** The example of README.md is the one below, line by line, and answers what its remarks say; each call is told. */
public final class ReadmeTest {
    private static final List<Long> TOLD = new ArrayList<>();
    private static final String[] CALLS = {
        "feed", "read", "lenient", "dropped", "node", "sign", "print", "out", "word", "clear", "fits", "worth", "ratio",
        "why", "rank",
    };

    private static void tell(long answer) {
        TOLD.add(answer);
    }

    private static long packed(String text) {
        return Due.packed(text);
    }

    private static void example() {
        // the example begins
        QueryTexts x = new QueryTexts();
        tell(x.word(0, 0, packed("ab")));     // 1: so many words has field a of document 0
        tell(x.word(1, 1, packed("abc")));    // 1: and field b of document 1
        tell(x.feed(6, packed("+a*^2 ")));    // 6: so many bytes has the tape
        tell(x.feed(6, packed("-b:abc")));    // 12
        tell(x.read());                       // 3: all of the query is node 0, its clauses are 1 and 2
        tell(x.node(1, 2));                   // 2: the boost of +a*^2
        tell(x.sign(2, 0, 1));                // 98: the second letter of abc
        tell(x.fits(0, 0));                   // 1: document 0 fits
        tell(x.worth(0, 0));                  // 2: the boost, times one word
        tell(x.why(1));                       // 2: document 1 does not fit, as clause 2 must not be
        tell(x.rank(0));                      // 0: the best document
        tell(x.rank(1));                      // -1: there is no other that fits
        tell(x.ratio(0, 0));                  // 1: ratio(0, 1) would throw an ArithmeticException
        tell(x.print());                      // 12: so many bytes were printed
        tell(x.out(0));                       // 43: the first one, +
        tell(x.feed(3, packed("(a ")));       // 3
        tell(x.read());                       // -203: wrong at place 3, for it ends there; the query stays
        tell(x.feed(4, packed("a)b~")));      // 4
        tell(x.lenient());                    // 2: read as ab
        tell(x.dropped(0));                   // 1: the place of )
        tell(x.dropped(1));                   // 3: the place of ~
        tell(x.clear(1));                     // 1: so many words had document 1
        // the example ends
    }

    public static void main(String[] args) throws IOException {
        Due due = new Due();
        String readme = Files.readString(Path.of("README.md"));
        String own = Files.readString(Path.of("src/test/java/ReadmeTest.java"));
        String shown = between(readme, "```java\n", "```").strip();
        String ran = between(own, "// the example begins\n", "// the example ends");
        due.same("the example of README.md", shown, ran.stripIndent().strip());
        example();
        due.same("what it answers", TOLD.toString(), remarks(shown).toString());
        for (String call : CALLS) {
            due.hold("the table tells of " + call, readme.contains("\n| `" + call + "("));
            due.hold("the example has " + call, shown.contains("x." + call + "("));
        }
        due.end();
    }

    private static String between(String text, String begin, String end) {
        int from = text.indexOf(begin) + begin.length();
        return text.substring(from, text.indexOf(end, from));
    }

    /** The numbers at the begin of the remarks. */
    private static List<Long> remarks(String code) {
        List<Long> numbers = new ArrayList<>();
        Matcher m = Pattern.compile("// (-?\\d+)").matcher(code);
        while (m.find()) {
            numbers.add(Long.parseLong(m.group(1)));
        }
        return numbers;
    }
}
