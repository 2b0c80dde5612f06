import java.util.ArrayList;
import java.util.List;
import java.util.Random;

/** All promises: many texts and documents, made by a fixed seed, against Model. */
public final class ModelTest {
    private static final Due DUE = new Due();
    private static final Random RANDOM = new Random(20261116);
    private static final String NOISE = "aab cz?*~^:+-()\"[]{}.@0129 A\u00ff\0";

    public static void main(String[] args) {
        for (int run = 0; run < 1500; run++) {
            QueryTexts x = new QueryTexts();
            List<List<List<String>>> documents = fill(x);
            String text = spoil(query(0, 1 + RANDOM.nextInt(5)));
            compareReading(x, text);
            compareLenient(x, text, documents);
        }
        for (int run = 0; run < 1500; run++) {
            QueryTexts x = new QueryTexts();
            List<List<List<String>>> documents = fill(x);
            String text = query(0, 1 + RANDOM.nextInt(6));
            if (text.length() <= 240 && Model.nodesOf(text) != null) {
                compareReading(x, text);
                compareAnswers(x, text, documents);
            }
        }
        compareNoise();
        DUE.end();
    }

    private static boolean chance(int percent) {
        return RANDOM.nextInt(100) < percent;
    }

    private static String letters(int most) {
        StringBuilder s = new StringBuilder();
        int length = 1 + RANDOM.nextInt(most);
        for (int i = 0; i < length; i++) {
            s.append("abc".charAt(RANDOM.nextInt(3)));
        }
        return s.toString();
    }

    private static String blanks() {
        return " ".repeat(chance(85) ? 1 : 2);
    }

    private static String query(int depth, int clauses) {
        StringBuilder s = new StringBuilder(chance(10) ? " " : "");
        for (int i = 0; i < clauses; i++) {
            s.append(i == 0 ? "" : blanks()).append(clause(depth));
        }
        return s.append(chance(10) ? " " : "").toString();
    }

    private static String clause(int depth) {
        String mark = chance(60) ? "" : chance(60) ? "+" : "-";
        String field = chance(75) ? "" : "abcd".charAt(RANDOM.nextInt(4)) + ":";
        String boost = chance(75) ? "" : "^" + RANDOM.nextInt(chance(50) ? 4 : 100);
        return mark + field + core(depth) + boost;
    }

    private static String core(int depth) {
        int kind = RANDOM.nextInt(10);
        if (kind < 4) {
            return chance(50) ? letters(4) + (chance(50) ? "~" + RANDOM.nextInt(3) : "") : signs();
        }
        if (kind < 6) {
            StringBuilder s = new StringBuilder("\"").append(letters(2));
            for (int i = RANDOM.nextInt(5); i > 0; i--) {
                s.append(blanks()).append(letters(1));
            }
            return s.append('"').append(chance(50) ? "~" + RANDOM.nextInt(10) : "").toString();
        }
        if (kind < 8 || depth >= 5) {
            boolean open = chance(50);
            return (open ? "{" : "[") + letters(3) + ".." + letters(3) + (open ? "}" : "]");
        }
        return "(" + query(depth + 1, 1 + RANDOM.nextInt(3)) + ")" + (chance(70) ? "" : "@" + (1 + RANDOM.nextInt(3)));
    }

    private static String signs() {
        StringBuilder s = new StringBuilder();
        int length = 1 + RANDOM.nextInt(5);
        for (int i = 0; i < length; i++) {
            s.append("abc?*".charAt(RANDOM.nextInt(5)));
        }
        return s.toString();
    }

    /** A byte or more put in, taken out or changed. */
    private static String spoil(String text) {
        StringBuilder s = new StringBuilder(text.substring(0, Math.min(text.length(), 30)));
        for (int i = RANDOM.nextInt(4); i > 0; i--) {
            int at = RANDOM.nextInt(s.length() + 1);
            if (chance(40) && at < s.length()) {
                s.deleteCharAt(at);
            } else {
                s.insert(at, NOISE.charAt(RANDOM.nextInt(NOISE.length())));
            }
        }
        return s.toString();
    }

    private static List<List<List<String>>> fill(QueryTexts x) {
        List<List<List<String>>> documents = new ArrayList<>();
        for (int d = 0; d < 8; d++) {
            List<List<String>> fields = new ArrayList<>();
            for (int f = 0; f < 4; f++) {
                List<String> words = new ArrayList<>();
                for (int i = chance(40) ? 0 : RANDOM.nextInt(13); i > 0; i--) {
                    words.add(letters(chance(70) ? 1 : 4));
                    DUE.same("word", x.word(d, f, Due.packed(words.get(words.size() - 1))), words.size());
                }
                fields.add(words);
            }
            documents.add(fields);
        }
        return documents;
    }

    private static void compareReading(QueryTexts x, String text) {
        int wrong = Model.wrongPlace(text);
        int answer = Due.readText(x, text);
        if (wrong >= 0) {
            DUE.same("read() of '" + text + "'", answer, -200 - wrong);
            return;
        }
        DUE.same("read() of '" + text + "'", answer, Model.nodesOf(text).size());
        compareTree(x, text);
    }

    private static void compareTree(QueryTexts x, String text) {
        List<Model.Node> nodes = Model.nodesOf(text);
        for (Model.Node node : nodes) {
            int k = node.number;
            int around = node.around == null ? -1 : node.around.number;
            DUE.same("node " + k + " of '" + text + "'", Due.nodeOf(x, k), node.core + " " + node.mark + " "
                + node.boost + " " + node.field + " " + node.detail + " " + node.size() + " " + around);
            compareSigns(x, node);
        }
        DUE.told("node behind the last", () -> x.node(nodes.size(), 0), Due.OUTSIDE_ROW);
        DUE.same("print of '" + text + "'", Due.printed(x), Model.printed(nodes.get(0)));
    }

    private static void compareSigns(QueryTexts x, Model.Node node) {
        for (int j = -1; j <= 5; j++) {
            for (int i = -1; i <= 8; i++) {
                boolean stands = j >= 0 && j < node.words.size() && i >= 0 && i < node.words.get(j).length();
                String want = node.core == 3 ? Due.NOT_A_WORD
                    : stands ? Integer.toString(node.words.get(j).charAt(i)) : Due.OUTSIDE_ROW;
                int word = j;
                int place = i;
                DUE.told("sign", () -> x.sign(node.number, word, place), want);
            }
        }
    }

    private static void compareLenient(QueryTexts x, String text, List<List<List<String>>> documents) {
        List<Integer> dropped = new ArrayList<>();
        String rest = Model.lenient(text, dropped);
        int answer = Due.lenientText(x, text);
        DUE.same("lenient() of '" + text + "'", answer, rest.isEmpty() ? -1 : Model.nodesOf(rest).size());
        StringBuilder places = new StringBuilder();
        for (int place : dropped) {
            places.append(places.length() == 0 ? "" : " ").append(place);
        }
        DUE.same("dropped of '" + text + "'", Due.droppedOf(x), places.toString());
        if (!rest.isEmpty()) {
            compareTree(x, rest);
            compareAnswers(x, rest, documents);
        }
    }

    private static void compareAnswers(QueryTexts x, String text, List<List<List<String>>> documents) {
        List<Model.Node> nodes = Model.nodesOf(text);
        Model.Node root = nodes.get(0);
        List<Integer> order = new ArrayList<>();
        for (int d = 0; d < 8; d++) {
            List<List<String>> document = documents.get(d);
            for (Model.Node node : nodes) {
                String about = "(" + node.number + ", " + d + ") of '" + text + "' for " + document;
                DUE.same("fits" + about, x.fits(node.number, d), Model.fits(node, document) ? 1 : 0);
                DUE.same("worth" + about, x.worth(node.number, d), Model.worth(node, document));
            }
            DUE.same("why(" + d + ") of '" + text + "' for " + document, x.why(d), Model.why(root, document));
            if (Model.fits(root, document)) {
                order.add(d);
            }
            compareRatio(x, root, documents, d);
        }
        order.sort((a, b) -> Long.compare(Model.worth(root, documents.get(b)), Model.worth(root, documents.get(a))));
        for (int k = 0; k < 9; k++) {
            DUE.same("rank(" + k + ") of '" + text + "'", x.rank(k), k < order.size() ? order.get(k) : -1);
        }
    }

    private static void compareRatio(QueryTexts x, Model.Node root, List<List<List<String>>> documents, int d) {
        int other = RANDOM.nextInt(8);
        long by = Model.worth(root, documents.get(other));
        String want = by == 0 ? Due.BY_NOTHING : Long.toString(Model.worth(root, documents.get(d)) / by);
        DUE.told("ratio(" + d + ", " + other + ")", () -> x.ratio(d, other), want);
    }

    /** Texts of the limit's length: nothing but the promised exceptions, and the printed text reads to itself. */
    private static void compareNoise() {
        for (int run = 0; run < 400; run++) {
            QueryTexts x = new QueryTexts();
            StringBuilder text = new StringBuilder();
            while (text.length() < 240) {
                text.append(chance(50) ? NOISE.charAt(RANDOM.nextInt(NOISE.length())) : "a (b".charAt(RANDOM.nextInt(4)));
            }
            Due.feedText(x, text.toString());
            int nodes = x.lenient();
            if (nodes > 0) {
                String printed = Due.printed(x);
                DUE.same("read() of '" + printed + "'", Due.readText(x, printed), nodes);
                DUE.same("print again", Due.printed(x), printed);
                compareTree(x, printed);
            }
        }
    }
}
