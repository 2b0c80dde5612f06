import java.util.ArrayList;
import java.util.HashSet;
import java.util.List;
import java.util.Set;
import java.util.regex.Matcher;
import java.util.regex.Pattern;

/** The document's terms once more, as literally and as slowly as they are written. */
final class Model {
    /** A NODE. */
    static final class Node {
        int core;
        int mark;
        int boost = 1;
        int field = -1;
        int detail;
        Node around;
        int number;
        final List<String> words = new ArrayList<>();
        final List<Node> clauses = new ArrayList<>();

        int size() {
            return core == 0 ? words.get(0).length() : core == 3 ? clauses.size() : words.size();
        }
    }

    /** Behind each beginning of a query one of these makes it a query, groups being closed then. */
    private static final String[] ENDS = {
        "", "a", "0", "1", "\"", "a\"", "a..a]", "a..a}", "..a]", ".a]", "a]", "]", "..a}", ".a}", "a}", "}",
    };
    private static final Pattern BLANKS = Pattern.compile(" *");
    private static final Pattern HEAD = Pattern.compile("([+-]?)(?:([a-d]):)?");
    private static final Pattern WORD = Pattern.compile("(?:([a-z]{1,8})~([0-2])|([a-z?*]{1,8}))");
    private static final Pattern QUOTE = Pattern.compile("\"([a-z]{1,8}(?: +[a-z]{1,8}){0,4})\"(?:~([0-9]))?");
    private static final Pattern SPAN = Pattern.compile(
        "(?:\\[([a-z]{1,8})\\.\\.([a-z]{1,8})\\]|\\{([a-z]{1,8})\\.\\.([a-z]{1,8})\\})");
    private static final Pattern LEAST = Pattern.compile("(?:@([1-9]))?");
    private static final Pattern BOOST = Pattern.compile("(?:\\^([0-9]{1,2}))?");

    private final String text;
    private int at = 0;
    private final List<Node> nodes = new ArrayList<>();
    private boolean wrong = false;

    private Model(String text) {
        this.text = text;
    }

    /** The NODES; null if the text is no query. */
    static List<Node> nodesOf(String text) {
        Model m = new Model(text);
        Node root = m.newNode(null);
        root.core = 3;
        root.detail = -1;
        m.takeQuery(root, 0);
        boolean ok = !m.wrong && m.at == text.length() && m.nodes.size() <= 25;
        return ok ? m.nodes : null;
    }

    /** The first wrong place; -1 if it is a query. */
    static int wrongPlace(String text) {
        if (nodesOf(text) != null) {
            return -1;
        }
        for (int i = 0; i < text.length(); i++) {
            if (!isBeginning(text.substring(0, i + 1))) {
                return i;
            }
        }
        return text.length();
    }

    private static boolean isBeginning(String text) {
        for (String end : ENDS) {
            for (int groups = 0; groups <= 5; groups++) {
                if (nodesOf(text + end + ")".repeat(groups)) != null) {
                    return true;
                }
            }
        }
        return false;
    }

    private Node newNode(Node around) {
        Node node = new Node();
        node.around = around;
        node.number = nodes.size();
        nodes.add(node);
        if (around != null) {
            around.clauses.add(node);
        }
        return node;
    }

    private Matcher take(Pattern pattern) {
        Matcher m = pattern.matcher(text).region(at, text.length());
        if (!m.lookingAt()) {
            return null;
        }
        at = m.end();
        return m;
    }

    private void takeQuery(Node group, int depth) {
        take(BLANKS);
        boolean apart = true;
        do {
            if (!apart) {
                wrong = true;
            }
            takeClause(newNode(group), depth);
            int before = at;
            take(BLANKS);
            apart = at > before;
        } while (!wrong && at < text.length() && text.charAt(at) != ')');
    }

    private void takeClause(Node node, int depth) {
        Matcher head = take(HEAD);
        node.mark = head.group(1).isEmpty() ? 0 : head.group(1).equals("+") ? 1 : 2;
        node.field = head.group(2) == null ? -1 : head.group(2).charAt(0) - 'a';
        Matcher m;
        if (text.startsWith("(", at)) {
            takeGroup(node, depth + 1);
        } else if ((m = take(QUOTE)) != null) {
            node.core = 1;
            node.words.addAll(List.of(m.group(1).split(" +")));
            node.detail = m.group(2) == null ? 0 : Integer.parseInt(m.group(2));
        } else if ((m = take(SPAN)) != null) {
            node.core = 2;
            node.detail = m.group(1) == null ? 1 : 0;
            node.words.add(m.group(1) == null ? m.group(3) : m.group(1));
            node.words.add(m.group(1) == null ? m.group(4) : m.group(2));
        } else if ((m = take(WORD)) != null) {
            node.words.add(m.group(1) == null ? m.group(3) : m.group(1));
            node.detail = m.group(1) == null ? 0 : Integer.parseInt(m.group(2));
        } else {
            wrong = true;
        }
        Matcher boost = take(BOOST);
        node.boost = boost.group(1) == null ? 1 : Integer.parseInt(boost.group(1));
    }

    private void takeGroup(Node node, int depth) {
        at++;
        node.core = 3;
        if (depth > 5) {
            wrong = true;
            return;
        }
        takeQuery(node, depth);
        if (!text.startsWith(")", at)) {
            wrong = true;
            return;
        }
        at++;
        Matcher least = take(LEAST);
        node.detail = least.group(1) == null ? -1 : Integer.parseInt(least.group(1));
    }

    /** Drops bytes until a query is left: what is left; the places of what was dropped go to the list. */
    static String lenient(String text, List<Integer> dropped) {
        List<Integer> places = new ArrayList<>();
        for (int i = 0; i < text.length(); i++) {
            places.add(i);
        }
        String rest = text;
        for (int wrong = wrongPlace(rest); wrong >= 0 && !rest.isEmpty(); wrong = wrongPlace(rest)) {
            int drop = Math.min(wrong, rest.length() - 1);
            dropped.add(places.remove(drop));
            rest = rest.substring(0, drop) + rest.substring(drop + 1);
        }
        return rest;
    }

    static String printed(Node node) {
        StringBuilder s = new StringBuilder();
        if (node.around != null) {
            s.append(new String[] {"", "+", "-"}[node.mark]);
            s.append(node.field < 0 ? "" : "abcd".charAt(node.field) + ":");
        }
        String near = node.detail == 0 ? "" : "~" + node.detail;
        switch (node.core) {
            case 0 -> s.append(node.words.get(0)).append(near);
            case 1 -> s.append('"').append(String.join(" ", node.words)).append('"').append(near);
            case 2 -> s.append(node.detail == 0 ? "[" : "{").append(String.join("..", node.words))
                .append(node.detail == 0 ? "]" : "}");
            default -> {
                List<String> parts = new ArrayList<>();
                node.clauses.forEach(c -> parts.add(printed(c)));
                String all = String.join(" ", parts);
                s.append(node.around == null ? all : "(" + all + ")");
                s.append(node.detail < 0 ? "" : "@" + node.detail);
            }
        }
        return s.append(node.boost == 1 ? "" : "^" + node.boost).toString();
    }

    static boolean fits(Node node, List<List<String>> document) {
        if (node.core != 3) {
            return count(node, document) > 0;
        }
        int must = 0;
        int may = 0;
        int mayFit = 0;
        for (Node c : node.clauses) {
            boolean fits = fits(c, document);
            if (c.mark == 1 && !fits || c.mark == 2 && fits) {
                return false;
            }
            must += c.mark == 1 ? 1 : 0;
            may += c.mark == 0 ? 1 : 0;
            mayFit += c.mark == 0 && fits ? 1 : 0;
        }
        int least = node.detail >= 0 ? node.detail : must > 0 ? 0 : may == 0 ? 0 : 1;
        return mayFit >= least;
    }

    static long worth(Node node, List<List<String>> document) {
        if (!fits(node, document)) {
            return 0;
        }
        if (node.core != 3) {
            return (long) node.boost * count(node, document);
        }
        long sum = 0;
        for (Node c : node.clauses) {
            sum += c.mark != 2 ? worth(c, document) : 0;
        }
        return node.boost * sum;
    }

    static int why(Node root, List<List<String>> document) {
        if (fits(root, document)) {
            return -1;
        }
        for (int mark = 1; mark <= 2; mark++) {
            for (Node c : root.clauses) {
                if (c.mark == mark && fits(c, document) == (mark == 2)) {
                    return c.number;
                }
            }
        }
        return 0;
    }

    private static int count(Node node, List<List<String>> document) {
        Node teller = node;
        while (teller != null && teller.field < 0) {
            teller = teller.around;
        }
        int count = 0;
        for (int f = 0; f < 4; f++) {
            if (teller == null || teller.field == f) {
                for (int place = 0; place < document.get(f).size(); place++) {
                    count += isAt(node, document.get(f), place) ? 1 : 0;
                }
            }
        }
        return count;
    }

    private static boolean isAt(Node node, List<String> field, int place) {
        String word = field.get(place);
        if (node.core == 1) {
            return word.equals(node.words.get(0)) && othersStand(node, field, place, place, 1);
        }
        if (node.core == 2) {
            int low = word.compareTo(node.words.get(0));
            int high = word.compareTo(node.words.get(1));
            return node.detail == 1 ? low > 0 && high < 0 : low >= 0 && high <= 0;
        }
        if (node.detail > 0) {
            return isNear(node.words.get(0), word, node.detail);
        }
        return word.matches(node.words.get(0).replace("?", "[a-z]").replace("*", "[a-z]*"));
    }

    private static boolean othersStand(Node quote, List<String> field, int first, int last, int next) {
        if (next == quote.words.size()) {
            return last - first <= quote.words.size() - 1 + quote.detail;
        }
        for (int place = last + 1; place < field.size(); place++) {
            if (field.get(place).equals(quote.words.get(next)) && othersStand(quote, field, first, place, next + 1)) {
                return true;
            }
        }
        return false;
    }

    /** Makes all words that can be made by one change after the other. */
    private static boolean isNear(String from, String to, int changes) {
        Set<String> made = new HashSet<>(Set.of(from));
        for (int c = 0; c < changes; c++) {
            Set<String> more = new HashSet<>(made);
            for (String word : made) {
                for (int i = 0; i <= word.length(); i++) {
                    String ahead = word.substring(0, i);
                    String behind = word.substring(i);
                    for (char letter : to.toCharArray()) {
                        more.add(ahead + letter + behind);
                        more.add(ahead + letter + (behind.isEmpty() ? "" : behind.substring(1)));
                    }
                    more.add(ahead + (behind.isEmpty() ? "" : behind.substring(1)));
                }
            }
            made = more;
        }
        return made.contains(to);
    }
}
