/** Promises 12 and 13: fits and worth. */
public final class WorthTest {
    private static final Due DUE = new Due();

    public static void main(String[] args) {
        words();
        nearOnes();
        spans();
        quotes();
        fields();
        groups();
        refuses();
        DUE.end();
    }

    /** Worth of all of the query for a document with these words in field a; -1: it does not fit. */
    private static void weighs(String text, String words, long want) {
        QueryTexts x = new QueryTexts();
        Due.readText(x, text);
        if (!words.isEmpty()) {
            Due.addWords(x, 5, 0, words);
        }
        DUE.same("fits(0, 5) of " + text + " for " + words, x.fits(0, 5), want < 0 ? 0 : 1);
        DUE.same("worth(0, 5) of " + text + " for " + words, x.worth(0, 5), Math.max(0, want));
    }

    private static void words() {
        weighs("ab", "ab abc b ab", 2);
        weighs("ab", "abc aab", -1);
        weighs("a?", "ab a abc az ba", 2);
        weighs("????????", "abcdefgh abcdefg", 1);
        weighs("*", "a abcdefgh", 2);
        weighs("********", "a abcdefgh", 2);
        weighs("a*", "a ab ba", 2);
        weighs("*a", "a ab ba", 2);
        weighs("*a*b*", "ab xaxbx ba aab b", 3);
        weighs("?*?", "a ab abc", 2);
        weighs("a*a", "a aa aba ab", 2);
        weighs("a*?a", "aa aba abba", 2);
        weighs("*?a*b?", "xabz abz xaybz xab", 2);
        weighs("a^0", "a", 0);
        weighs("a^99", "a a a", 297);
        weighs("a", "", -1);
    }

    private static void nearOnes() {
        weighs("abc~1", "abc ab abcd xbc axc abx ac bc xabc axbc ba cab", 10);
        weighs("abc~1", "ba cab acb xyc", -1);
        weighs("abc~2", "a b c x ba cab acb xyc abcde xyz", 8);
        weighs("a~2", "bc b a bcd abc", 4);
        weighs("ab~0", "ab a", 1);
        weighs("abcdefgh~2", "abcdefgh cdefgh bcdefgha xxcdefgh xxxdefgh", 4);
    }

    private static void spans() {
        weighs("[ab..b]", "ab a abc az b ba c aazzzzzz", 4);
        weighs("{ab..b}", "ab a abc az b ba c", 2);
        weighs("[b..a]", "a b ab", -1);
        weighs("{a..a}", "a", -1);
        weighs("[a..a]", "a aa", 1);
        weighs("{a..aa}", "a aa", -1);
        weighs("[abcdefgh..abcdefgi]^3", "abcdefgh abcdefgi abcdefgj abcdefg", 6);
    }

    private static void quotes() {
        weighs("\"a\"", "a b a", 2);
        weighs("\"a\"~9^2", "a b a", 4);
        weighs("\"a b\"", "a b a x b a b", 2);
        weighs("\"a b\"~1", "a b a x b a b", 3);
        weighs("\"a b\"~1", "a a b", 2);
        weighs("\"a b\"~2", "b a x x x b", -1);
        weighs("\"a b\"~3", "b a x x x b", 1);
        weighs("\"a a\"", "a a a", 2);
        weighs("\"a a\"", "a", -1);
        weighs("\"a b a\"~2", "a b x b a b a", 2);
        weighs("\"a b c\"~1", "a x b x c", -1);
        weighs("\"a b c\"~2", "a x b x c", 1);
        weighs("\"a b c d e\"", "a b c d e", 1);
        weighs("\"b a\"", "a b", -1);
        weighs("\"a l\"~9", "a b c d e f g h i j l", 1);
        weighs("\"a l\"~9", "a b c d e f g h i j k l", -1);
        weighs("\"a b\"", "ab a bc b", -1);
    }

    private static void fields() {
        QueryTexts x = new QueryTexts();
        for (int field = 0; field < 4; field++) {
            Due.addWords(x, 0, field, "q ".repeat(field + 1).trim());
        }
        Due.addWords(x, 0, 0, "r");
        Due.addWords(x, 0, 1, "s");
        Due.readText(x, "q a:q b:q c:q d:q d:(q a:q (q b:(q))) \"r s\"~9 \"r q\"");
        long[] worths = {10 + 1 + 2 + 3 + 4 + 4 + 1 + 4 + 2, 10, 1, 2, 3, 4, 11, 4, 1, 6, 4, 2, 2, 0, 0};
        for (int k = 0; k < worths.length; k++) {
            DUE.same("worth(" + k + ", 0)", x.worth(k, 0), worths[k]);
            DUE.same("fits(" + k + ", 0)", x.fits(k, 0), worths[k] > 0 ? 1 : 0);
        }
    }

    private static void groups() {
        weighs("+a b", "a", 1);
        weighs("+a b", "b", -1);
        weighs("+a b", "a b b", 3);
        weighs("a b", "b", 1);
        weighs("a b", "c", -1);
        weighs("a -b", "a b", -1);
        weighs("a -b", "a", 1);
        weighs("a -b", "c", -1);
        weighs("-b", "a", 0);
        weighs("-b", "b", -1);
        weighs("-b", "", 0);
        weighs("(a b c)@2", "a", -1);
        weighs("(a b c)@2", "a c", 2);
        weighs("(a b)@3", "a b", -1);
        weighs("(+a b)@1", "a", -1);
        weighs("(+a b)@1", "a b", 2);
        weighs("(+a)@1", "a", -1);
        weighs("(-a)@1", "b", -1);
        weighs("(-a)", "b", 0);
        weighs("(a^2 b^3)^4", "a b b", 32);
        weighs("(a b)^0", "a", 0);
        weighs("+(a)^0 b", "a", 0);
        weighs("-(a b)@2 c", "a c", 1);
        weighs("-(a b)@2 c", "a b c", -1);
        weighs("-(-a) a", "a", 1);
        weighs("-(-a) b", "b", -1);
        weighs("+(-a b) c", "b c", 2);
        weighs("(((((a^99)^99)^99)^99)^99)^99", "a a a a a a a a a a a a", 12L * 99 * 99 * 99 * 99 * 99 * 99);
        QueryTexts x = new QueryTexts();
        Due.readText(x, "+a -(b c)^2 -d");
        Due.addWords(x, 1, 2, "a b c");
        DUE.same("fits of what is barred", x.fits(2, 1), 1);
        DUE.same("worth of what is barred", x.worth(2, 1), 4);
        DUE.same("fits of all", x.fits(0, 1), 0);
        DUE.same("worth of all", x.worth(0, 1), 0);
        DUE.same("worth of the one that must be", x.worth(1, 1), 1);
    }

    private static void refuses() {
        QueryTexts x = new QueryTexts();
        DUE.same("fits(0, 0) without a query", x.fits(0, 0), QueryTexts.UNKNOWN);
        Due.readText(x, "a");
        int[] stray = {-1, 8, Integer.MIN_VALUE, Integer.MAX_VALUE};
        for (int n : stray) {
            DUE.same("fits(" + n + ", 0)", x.fits(n, 0), QueryTexts.UNKNOWN);
            DUE.same("fits(0, " + n + ")", x.fits(0, n), QueryTexts.UNKNOWN);
            DUE.same("worth(" + n + ", 0)", x.worth(n, 0), QueryTexts.UNKNOWN);
            DUE.same("worth(0, " + n + ")", x.worth(0, n), QueryTexts.UNKNOWN);
        }
        DUE.same("fits(2, 0)", x.fits(2, 0), QueryTexts.UNKNOWN);
        DUE.same("fits(1, 7)", x.fits(1, 7), 0);
        DUE.same("worth(1, 7)", x.worth(1, 7), 0);
    }
}
