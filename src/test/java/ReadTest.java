/** Promises 2 and 3: feed and read. */
public final class ReadTest {
    private static final Due DUE = new Due();

    public static void main(String[] args) {
        feeds();
        fills();
        readsClauses();
        readsWrongPlaces();
        readsToTheLimits();
        keepsTheQuery();
        DUE.end();
    }

    private static void reads(String text, int want) {
        DUE.same("read() of '" + text + "'", Due.readText(new QueryTexts(), text), want);
    }

    private static void feeds() {
        QueryTexts x = new QueryTexts();
        int[] outside = {0, -1, 9, Integer.MIN_VALUE, Integer.MAX_VALUE};
        for (int n : outside) {
            DUE.same("feed(" + n + ", 0)", x.feed(n, Due.packed("a")), QueryTexts.OUTSIDE);
        }
        DUE.same("feed(2, ..)", x.feed(2, Due.packed("zzzab")), 2);
        DUE.same("feed(8, ..)", x.feed(8, Due.packed("cdef ghi")), 10);
        DUE.same("read()", x.read(), 3);
        DUE.same("print", Due.printed(x), "abcdef ghi");
        DUE.same("feed(3, 'a')", x.feed(3, 'a'), 3);
        DUE.same("read() of two zeros and a", x.read(), -200);
        DUE.same("feed(8, -1)", x.feed(8, -1L), 8);
        DUE.same("read() of 255s", x.read(), -200);
    }

    private static void fills() {
        QueryTexts x = new QueryTexts();
        for (int i = 1; i <= 29; i++) {
            DUE.same("feed", x.feed(8, Due.packed("        ")), 8 * i);
        }
        DUE.same("feed to 239", x.feed(7, Due.packed("a      ")), 239);
        DUE.same("feed(2) at 239", x.feed(2, Due.packed("bb")), QueryTexts.FULL);
        DUE.same("feed(9) at 239", x.feed(9, 0), QueryTexts.OUTSIDE);
        DUE.same("feed(1) at 239", x.feed(1, 'b'), 240);
        DUE.same("feed(1) at 240", x.feed(1, 'b'), QueryTexts.FULL);
        DUE.same("read() of 240", x.read(), 3);
        DUE.same("feed(1) behind read()", x.feed(1, ' '), 1);
        DUE.same("read() of a blank", x.read(), -201);
        DUE.same("feed(1) behind a wrong read()", x.feed(1, 'a'), 1);
        for (int i = 0; i < 29; i++) {
            x.feed(8, Due.packed("        "));
        }
        x.feed(7, Due.packed("      ("));
        DUE.same("read() of 240, too early at the end", x.read(), -440);
    }

    private static void readsClauses() {
        String[] twoNodes = {
            "a", "zzzzzzzz", "????????", "a*b?", "+a", "-a", "a:a", "d:d", "+c:abc", "a~0", "a~2", "a^0", "a^99",
            "a~1^2", "\"a\"", "\"a b c d e\"", "\"a\"~9^9", "[a..b]", "{a..b}", "[b..a]^10", " a ", "-d:\"ab   cd\"~0^01",
            "[abcdefgh..abcdefgh]", "\"abcdefgh abcdefgh abcdefgh abcdefgh abcdefgh\"", "*", "a:*", "b:[a..a]",
        };
        for (String text : twoNodes) {
            reads(text, 2);
        }
        reads("(a)", 3);
        reads("( a )@9^99", 3);
        reads("+b:(a -c:(b)@1)^3  d", 6);
        reads("((a) (b))", 6);
        reads("a:(b:(c:(d:(a:(b:c)))))", 7);
    }

    private static void readsWrongPlaces() {
        Object[][] wrong = {
            {"", 0}, {"   ", 3}, {"+", 1}, {"+ a", 1}, {"a:", 2}, {"a: b", 2}, {"a:b:c", 3}, {"ab:c", 2}, {"e:f", 1},
            {"?:a", 1}, {"*:a", 1}, {"+a:+b", 3}, {"abcdefghi", 8}, {"a~3", 2}, {"a~", 2}, {"a?~1", 2}, {"*~1", 1},
            {"a~1~1", 3}, {"a~12", 3}, {"a^", 2}, {"a^123", 4}, {"a^1^1", 3}, {"a^2~1", 3}, {"a^-1", 2}, {"\"\"", 1},
            {"\" a\"", 1}, {"\"a \"", 3}, {"\"a b c d e \"", 10}, {"\"a", 2}, {"\"a?\"", 2}, {"\"a\"~", 4},
            {"\"a\"~10", 5}, {"\"a\"\"b\"", 3}, {"\"abcdefghi\"", 9}, {"[..a]", 1}, {"[a.b]", 3}, {"[a...b]", 4},
            {"[a..b}", 5}, {"{a..b]", 5}, {"[a..b", 5}, {"[a..]", 4}, {"[abcdefghi..b]", 9}, {"[a..abcdefghi]", 12},
            {"[a ..b]", 2}, {"[a..b]~1", 6}, {"[*..b]", 1}, {"()", 1}, {"( )", 2}, {"(a", 2}, {"(a ", 3}, {")", 0},
            {"a)", 1}, {"(a))", 3}, {"(a)@0", 4}, {"(a)@", 4}, {"(a)@10", 5}, {"(a)~1", 3}, {"(a)^2@1", 5},
            {"(a)b", 3}, {"a(b)", 1}, {"((((((a))))))", 5}, {"(((((+(a", 6}, {"A", 0}, {"a\t", 1}, {"a\u00ff", 1},
            {"a ~1", 2}, {"a^1a", 3}, {"a@1", 1}, {"\"a\"@1", 3}, {"a\"b\"", 1}, {"+-a", 1}, {"a+b", 1}, {"1", 0},
        };
        for (Object[] row : wrong) {
            reads((String) row[0], -200 - (Integer) row[1]);
        }
    }

    private static String many(int count) {
        return "z ".repeat(count);
    }

    private static void readsToTheLimits() {
        reads(many(24), 25);
        reads(many(24) + "z", -248);
        reads(many(24) + "+", -248);
        reads(many(24) + "\"", -248);
        reads(many(23) + "+a:z ", 25);
        reads(many(23) + "(z)", -246);
        reads(many(23) + "+(z)", -247);
        reads(many(23) + "a:(z)", -248);
        reads(many(22) + "((z))", -245);
        reads(many(22) + "(z )", 25);
        reads(many(22) + "(z z)", -247);
        reads("(" + many(23) + ")", 25);
        reads("(" + many(23) + ") z", -249);
        reads("(((((a))))) (((((b)))))", 13);
    }

    private static void keepsTheQuery() {
        QueryTexts x = new QueryTexts();
        Due.readText(x, "+a:b^3 \"c d\"");
        DUE.same("a wrong read()", Due.readText(x, "(x y z +zz [a..b] ("), -219);
        DUE.same("the query behind it", Due.printed(x), "+a:b^3 \"c d\"");
        DUE.same("read() of nothing", x.read(), -200);
        DUE.same("the query behind that", Due.printed(x), "+a:b^3 \"c d\"");
        DUE.same("another read()", Due.readText(x, "x"), 2);
        DUE.same("the query then", Due.printed(x), "x");
        DUE.told("node(2, 0) of the old one", () -> x.node(2, 0), Due.OUTSIDE_ROW);
    }
}
