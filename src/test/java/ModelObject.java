import java.util.ArrayList;
import java.util.List;

/** What the document says of a whole object: tape, query, documents, what was dropped and printed. */
final class ModelObject {
    private String tape = "";
    /** Null as long as there is no QUERY. */
    private List<Model.Node> query = null;
    private List<Integer> droppedPlaces = new ArrayList<>();
    /** Null as long as nothing was printed. */
    private String out = null;
    private final List<List<List<String>>> documents = new ArrayList<>();

    ModelObject() {
        for (int d = 0; d < 8; d++) {
            documents.add(List.of(new ArrayList<>(), new ArrayList<>(), new ArrayList<>(), new ArrayList<>()));
        }
    }

    private static String bytes(int n, long w) {
        StringBuilder s = new StringBuilder();
        for (int i = n - 1; i >= 0; i--) {
            s.append((char) (w >>> 8 * i & 255));
        }
        return s.toString();
    }

    private boolean noDocument(int document) {
        return document < 0 || document > 7;
    }

    private boolean noNode(int k) {
        return query == null || k < 0 || k >= query.size();
    }

    private boolean fits(int document) {
        return Model.fits(query.get(0), documents.get(document));
    }

    private long worth(int document) {
        return Model.worth(query.get(0), documents.get(document));
    }

    String feed(int n, long w) {
        if (n < 1 || n > 8) {
            return "-102";
        }
        if (tape.length() + n > 240) {
            return "-103";
        }
        tape += bytes(n, w);
        return "" + tape.length();
    }

    String read() {
        String text = tape;
        tape = "";
        int wrong = Model.wrongPlace(text);
        if (wrong >= 0) {
            return "" + (-200 - wrong);
        }
        query = Model.nodesOf(text);
        return "" + query.size();
    }

    String lenient() {
        droppedPlaces = new ArrayList<>();
        String rest = Model.lenient(tape, droppedPlaces);
        tape = "";
        if (rest.isEmpty()) {
            return "-1";
        }
        query = Model.nodesOf(rest);
        return "" + query.size();
    }

    String dropped(int k) {
        return k < 0 || k >= droppedPlaces.size() ? "-1" : "" + droppedPlaces.get(k);
    }

    String node(int k, int what) {
        if (noNode(k)) {
            return Due.OUTSIDE_ROW;
        }
        Model.Node n = query.get(k);
        int[] told = {n.core, n.mark, n.boost, n.field, n.detail, n.size(), n.around == null ? -1 : n.around.number};
        return what < 0 || what > 6 ? "-102" : "" + told[what];
    }

    String sign(int k, int j, int i) {
        if (noNode(k)) {
            return Due.OUTSIDE_ROW;
        }
        Model.Node n = query.get(k);
        if (n.core == 3) {
            return Due.NOT_A_WORD;
        }
        boolean none = j < 0 || j >= n.words.size() || i < 0 || i >= n.words.get(j).length();
        return none ? Due.OUTSIDE_ROW : "" + (int) n.words.get(j).charAt(i);
    }

    String print() {
        if (query == null) {
            return "-104";
        }
        out = Model.printed(query.get(0));
        return "" + out.length();
    }

    String out(int i) {
        if (out == null) {
            return Due.NO_PRINT;
        }
        return i < 0 || i >= out.length() ? Due.OUTSIDE_ROW : "" + (int) out.charAt(i);
    }

    String word(int document, int field, long w) {
        if (noDocument(document) || field < 0 || field > 3) {
            return "-101";
        }
        String word = bytes(8, w).replaceAll("^\0+", "");
        if (!word.matches("[a-z]{1,8}")) {
            return "-102";
        }
        List<String> words = documents.get(document).get(field);
        if (words.size() == 12) {
            return "-103";
        }
        words.add(word);
        return "" + words.size();
    }

    String clear(int document) {
        if (noDocument(document)) {
            return "-101";
        }
        int had = 0;
        for (List<String> words : documents.get(document)) {
            had += words.size();
            words.clear();
        }
        return "" + had;
    }

    String fits(int k, int document) {
        if (noNode(k) || noDocument(document)) {
            return "-101";
        }
        return Model.fits(query.get(k), documents.get(document)) ? "1" : "0";
    }

    String worth(int k, int document) {
        if (noNode(k) || noDocument(document)) {
            return "-101";
        }
        return "" + Model.worth(query.get(k), documents.get(document));
    }

    String ratio(int document, int other) {
        if (noDocument(document) || noDocument(other)) {
            return "-101";
        }
        if (query == null) {
            return "-104";
        }
        return worth(other) == 0 ? Due.BY_NOTHING : "" + worth(document) / worth(other);
    }

    String why(int document) {
        if (noDocument(document)) {
            return "-101";
        }
        return query == null ? "-104" : "" + Model.why(query.get(0), documents.get(document));
    }

    String rank(int k) {
        if (query == null) {
            return "-104";
        }
        List<Integer> order = new ArrayList<>();
        for (int d = 0; d < 8; d++) {
            if (fits(d)) {
                order.add(d);
            }
        }
        order.sort((a, b) -> Long.compare(worth(b), worth(a)));
        return k < 0 || k >= order.size() ? "-1" : "" + order.get(k);
    }
}
