/** Promise 16: rank. */
public final class Promise16RankTest {
    private static final int[] FAR = {-1, 8, 9, Integer.MIN_VALUE, Integer.MAX_VALUE};

    public static void main(String[] args) {
        Case.runAll(Promise16RankTest.class);
    }

    private static void order(Case c, String want) {
        StringBuilder order = new StringBuilder();
        for (int k = 0; k < 8; k++) {
            int document = c.x.rank(k);
            order.append(document == QueryTexts.NONE ? "-" : "" + document);
        }
        c.same("rank(0) .. rank(7)", order.toString(), want);
    }

    static void thoseOfGreaterWorthAreFirst(Case c) {
        for (int document = 0; document < 8; document++) {
            c.words(document, 0, "a ".repeat(document + 1).trim());
        }
        c.reads("a", 2);
        order(c, "76543210");
    }

    static void ofLikeOnesTheLesserNumberIsFirst(Case c) {
        for (int document = 0; document < 8; document++) {
            c.words(document, document % 4, "a");
        }
        c.reads("a", 2);
        order(c, "01234567");
    }

    static void likeOnesAmongOthers(Case c) {
        c.words(1, 0, "a");
        c.words(2, 0, "a a");
        c.words(4, 0, "a a");
        c.words(5, 0, "a");
        c.words(7, 0, "a a a");
        c.reads("a", 2);
        order(c, "72415---");
    }

    static void thoseThatDoNotFitAreLeftOut(Case c) {
        c.words(0, 0, "b");
        c.words(3, 0, "a");
        c.reads("a", 2);
        order(c, "3-------");
    }

    static void noneFitsIsNone(Case c) {
        c.reads("a", 2);
        order(c, "--------");
    }

    static void thoseThatFitAndAreWorth0AreLast(Case c) {
        c.words(0, 0, "b");
        c.words(1, 0, "a b");
        c.words(2, 0, "c");
        c.reads("+b^0 a", 3);
        order(c, "10------");
    }

    static void allFitAndAreWorth0(Case c) {
        c.reads("-a", 2);
        order(c, "01234567");
        c.words(0, 0, "a");
        order(c, "1234567-");
    }

    static void worthsAreComparedAsLongs(Case c) {
        c.words(0, 0, "b");
        c.words(1, 0, "a");
        c.words(2, 0, "a a");
        c.reads("(((((a^99)^99)^99)^99)^99)^99 b", 8);
        order(c, "210-----");
    }

    static void kBelow0OrTooLargeIsNone(Case c) {
        c.reads("-a", 2);
        for (int k : FAR) {
            c.same("rank(" + k + ")", c.x.rank(k), QueryTexts.NONE);
        }
    }

    static void kBehindTheLastThatFitsIsNone(Case c) {
        c.words(6, 0, "a");
        c.reads("a", 2);
        c.same("rank(0)", c.x.rank(0), 6);
        c.same("rank(1)", c.x.rank(1), QueryTexts.NONE);
    }

    static void kBelow0IsNoneWhereNoneFits(Case c) {
        c.reads("a", 2);
        c.same("rank(-1)", c.x.rank(-1), QueryTexts.NONE);
    }

    static void withoutAQueryIsState(Case c) {
        for (int k = 0; k < 8; k++) {
            c.same("rank(" + k + ")", c.x.rank(k), QueryTexts.STATE);
        }
    }

    static void stateIsAheadOfNone(Case c) {
        for (int k : FAR) {
            c.same("rank(" + k + ")", c.x.rank(k), QueryTexts.STATE);
        }
    }

    static void theOrderFollowsQueryAndWords(Case c) {
        c.words(0, 0, "a b b");
        c.words(1, 0, "a a b");
        c.reads("a", 2);
        order(c, "10------");
        c.reads("b", 2);
        order(c, "01------");
        c.words(1, 1, "b b");
        order(c, "10------");
        c.x.clear(1);
        order(c, "0-------");
    }
}
