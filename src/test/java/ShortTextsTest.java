import java.util.ArrayList;
import java.util.List;

/** Every short text that some signs make, read and printed, or read leniently, is as the model says. */
public final class ShortTextsTest {
    /** One of each kind of byte that a text tells apart, and some that it never has. */
    private static final String KINDS = "+-ae:?*~129\"[.]{}()@^ 0\u00e1";
    private static final int READ_BYTES = 4;
    /** Signs that say something together, and how many bytes the texts of them have. */
    private static final String[] LENIENT_SIGNS = {KINDS, "a\" ~^", "(a)@1", "[a.]{", "+a:?~ "};
    private static final int[] LENIENT_BYTES = {3, 5, 5, 5, 5};

    private final Due due = new Due();
    private QueryTexts x = new QueryTexts();

    public static void main(String[] args) {
        ShortTextsTest test = new ShortTextsTest();
        test.readOn("", READ_BYTES);
        for (int i = 0; i < LENIENT_SIGNS.length; i++) {
            test.lenientOn("", LENIENT_BYTES[i], LENIENT_SIGNS[i]);
        }
        test.due.end();
    }

    /** A text that is wrong ahead of its end stays so with all that comes behind. */
    private void readOn(String text, int more) {
        x = new QueryTexts();
        int wrong = Model.wrongPlace(text);
        int answer = wrong >= 0 ? -200 - wrong : Model.nodesOf(text).size();
        due.same("read() of '" + text + "'", Due.readText(x, text), answer);
        if (wrong < 0) {
            due.same("'" + text + "' printed", Due.printed(x), Model.printed(Model.nodesOf(text).get(0)));
        }
        if (more > 0 && (wrong < 0 || wrong == text.length())) {
            for (char c : KINDS.toCharArray()) {
                readOn(text + c, more - 1);
            }
        }
    }

    private void lenientOn(String text, int more, String signs) {
        x = new QueryTexts();
        List<Integer> dropped = new ArrayList<>();
        String rest = Model.lenient(text, dropped);
        int answer = rest.isEmpty() ? QueryTexts.NONE : Model.nodesOf(rest).size();
        due.same("lenient() of '" + text + "'", Due.lenientText(x, text), answer);
        due.same("dropped of '" + text + "'", Due.droppedOf(x), dropped.toString().replaceAll("[\\[\\],]", ""));
        if (more > 0) {
            for (char c : signs.toCharArray()) {
                lenientOn(text + c, more - 1, signs);
            }
        }
    }
}
