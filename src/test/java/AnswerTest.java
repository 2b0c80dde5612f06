/** Promises 14, 15 and 16: ratio, why and rank. */
public final class AnswerTest {
    private static final Due DUE = new Due();
    private static final int[] STRAY = {-1, 8, Integer.MIN_VALUE, Integer.MAX_VALUE};

    public static void main(String[] args) {
        ratios();
        reasons();
        ranks();
        ranksAll();
        DUE.end();
    }

    private static void ratios() {
        QueryTexts x = new QueryTexts();
        for (int n : STRAY) {
            DUE.same("ratio(" + n + ", 0)", x.ratio(n, 0), QueryTexts.UNKNOWN);
            DUE.same("ratio(0, " + n + ")", x.ratio(0, n), QueryTexts.UNKNOWN);
        }
        DUE.same("ratio(0, 7)", x.ratio(0, 7), QueryTexts.STATE);
        Due.addWords(x, 0, 0, "a a a a a a a");
        Due.addWords(x, 1, 1, "a a");
        Due.addWords(x, 2, 1, "b");
        Due.readText(x, "a^3");
        DUE.same("ratio(0, 1)", x.ratio(0, 1), 3);
        DUE.same("ratio(1, 0)", x.ratio(1, 0), 0);
        DUE.same("ratio(0, 0)", x.ratio(0, 0), 1);
        DUE.same("ratio(2, 1)", x.ratio(2, 1), 0);
        DUE.told("ratio(0, 2)", () -> x.ratio(0, 2), Due.BY_NOTHING);
        DUE.told("ratio(2, 2)", () -> x.ratio(2, 2), Due.BY_NOTHING);
        for (int n : STRAY) {
            DUE.same("ratio(" + n + ", 2)", x.ratio(n, 2), QueryTexts.UNKNOWN);
            DUE.same("ratio(0, " + n + ")", x.ratio(0, n), QueryTexts.UNKNOWN);
        }
        Due.readText(x, "a^0");
        DUE.told("ratio by one that fits and is worth 0", () -> x.ratio(0, 1), Due.BY_NOTHING);
    }

    private static void reasons() {
        why("a b", "a", QueryTexts.NONE);
        why("a b", "c", 0);
        why("+a +b", "a", 2);
        why("+a +b", "c", 1);
        why("-c +a -d +b", "a c d", 4);
        why("-c +a -d +b", "a b d", 3);
        why("-c +a -d +b", "a b c d", 1);
        why("-c +a -d +b", "a b", QueryTexts.NONE);
        why("x (+a b) +(+a b) -c", "x c", 5);
        why("x (+a b) +(+a b) -c", "x c a", 8);
        why("(a b)@2 -(c)", "a", 0);
        why("(a b)@2 -(c)", "c", 3 + 1);
        why("(+a)", "b", 0);
        why("(-a)", "a", 0);
        why("-a b", "c", 0);
        QueryTexts x = new QueryTexts();
        for (int n : STRAY) {
            DUE.same("why(" + n + ") without a query", x.why(n), QueryTexts.UNKNOWN);
        }
        DUE.same("why(0) without a query", x.why(0), QueryTexts.STATE);
        Due.readText(x, "a");
        for (int n : STRAY) {
            DUE.same("why(" + n + ")", x.why(n), QueryTexts.UNKNOWN);
        }
        DUE.same("why(7)", x.why(7), 0);
    }

    private static void why(String text, String words, int want) {
        QueryTexts x = new QueryTexts();
        Due.readText(x, text);
        Due.addWords(x, 6, 3, words);
        DUE.same("why of " + text + " for " + words, x.why(6), want);
    }

    private static String order(QueryTexts x) {
        StringBuilder order = new StringBuilder();
        for (int k = 0; k < 9; k++) {
            order.append(k == 0 ? "" : " ").append(x.rank(k));
        }
        return order.toString();
    }

    private static void ranks() {
        QueryTexts x = new QueryTexts();
        DUE.same("rank(99) without a query", x.rank(99), QueryTexts.STATE);
        Due.addWords(x, 1, 0, "a");
        Due.addWords(x, 2, 3, "a a");
        Due.addWords(x, 3, 0, "b");
        Due.addWords(x, 5, 1, "a b");
        Due.addWords(x, 7, 2, "a a a");
        Due.readText(x, "a");
        DUE.same("order", order(x), "7 2 1 5 -1 -1 -1 -1 -1");
        Due.readText(x, "a b^9");
        DUE.same("order", order(x), "5 3 7 2 1 -1 -1 -1 -1");
        Due.readText(x, "+b a");
        DUE.same("order", order(x), "5 3 -1 -1 -1 -1 -1 -1 -1");
        Due.readText(x, "zz");
        DUE.same("order", order(x), "-1 -1 -1 -1 -1 -1 -1 -1 -1");
        for (int k : new int[] {-1, 8, Integer.MIN_VALUE, Integer.MAX_VALUE}) {
            DUE.same("rank(" + k + ")", x.rank(k), QueryTexts.NONE);
        }
    }

    private static void ranksAll() {
        QueryTexts x = new QueryTexts();
        Due.readText(x, "-b");
        DUE.same("order of like ones", order(x), "0 1 2 3 4 5 6 7 -1");
        Due.addWords(x, 0, 0, "b");
        DUE.same("order without the first", order(x), "1 2 3 4 5 6 7 -1 -1");
        Due.readText(x, "c^0 -b");
        for (int document = 0; document < 8; document++) {
            Due.addWords(x, document, 1, "c ".repeat(document + 1).trim());
        }
        DUE.same("order of those worth 0", order(x), "1 2 3 4 5 6 7 -1 -1");
        Due.readText(x, "c");
        DUE.same("order of more and more", order(x), "7 6 5 4 3 2 1 0 -1");
        x.clear(7);
        DUE.same("order behind clear", order(x), "6 5 4 3 2 1 0 -1 -1");
    }
}
