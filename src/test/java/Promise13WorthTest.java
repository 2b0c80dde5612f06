/** Promise 13: worth, with the terms of COUNT and WORTH. */
public final class Promise13WorthTest {
    public static void main(String[] args) {
        Case.runAll(Promise13WorthTest.class);
    }

    /** Asks all of a query about a document with these words in field b. */
    private static void worth(Case c, String text, String words, long want) {
        Case each = c.anew();
        c.hold("'" + text + "' is a QUERY", Due.readText(each.x, text) > 1);
        each.words(6, 1, words);
        c.same("worth(0, 6) of '" + text + "' for '" + words + "'", each.x.worth(0, 6), want);
    }

    static void countOfAWordIsHowManyWordsFit(Case c) {
        worth(c, "a", "a b a c a", 3);
        worth(c, "a?", "ab ac a abc ad", 3);
        worth(c, "ab~1", "ab a b abc ba xy", 4);
        worth(c, "*", "a a a a a a a a a a a a", 12);
    }

    static void countOfASpanIsHowManyWordsFit(Case c) {
        worth(c, "[b..d]", "a b c d e b", 4);
        worth(c, "{b..d}", "a b c d e b", 1);
    }

    static void countOfAQuoteIsHowManyFirstPlaces(Case c) {
        worth(c, "\"a b\"", "a b a b a c", 2);
        worth(c, "\"a b\"~1", "a a b", 2);
        worth(c, "\"a b\"~2", "a b b b", 1);
        worth(c, "\"a a\"", "a a a a", 3);
        worth(c, "\"a a a\"~1", "a a x a a", 2);
        worth(c, "\"a\"", "a a b", 2);
        worth(c, "\"a a\"", "a a a a a a a a a a a a", 11);
    }

    static void countOfAllFieldsIsTheirSum(Case c) {
        for (int field = 0; field < 4; field++) {
            c.words(0, field, "a b a b a b a b a b a b");
        }
        c.reads("a \"a b\" [a..b] c:a", 5);
        c.same("worth(1, 0)", c.x.worth(1, 0), 24);
        c.same("worth(2, 0)", c.x.worth(2, 0), 24);
        c.same("worth(3, 0)", c.x.worth(3, 0), 48);
        c.same("worth(4, 0)", c.x.worth(4, 0), 6);
    }

    static void boostTimesCount(Case c) {
        worth(c, "a^2", "a a a", 6);
        worth(c, "a^99", "a a", 198);
        worth(c, "[a..b]^10", "a b", 20);
        worth(c, "\"a b\"^3", "a b a b", 6);
    }

    static void boost0IsWorth0(Case c) {
        worth(c, "a^0", "a a a", 0);
        worth(c, "(a b)^0", "a b", 0);
        worth(c, "(a b)^0 a", "a b", 1);
    }

    static void whatDoesNotFitIsWorth0(Case c) {
        worth(c, "a^9", "b", 0);
        worth(c, "+a b^9", "b", 0);
        worth(c, "a -b", "a b", 0);
        worth(c, "(a b)@2", "a", 0);
    }

    static void ofAGroupTheSumOfThoseThatFit(Case c) {
        worth(c, "a b^2 c^3", "a c", 4);
        worth(c, "+a b^2 c^3", "a b b", 5);
        worth(c, "(a b^2)^3 c", "a b c", 10);
        worth(c, "a a a", "a", 3);
    }

    static void aGroupWithinThatDoesNotFitAddsNothing(Case c) {
        worth(c, "c (a b)@2^9", "a c", 1);
        worth(c, "c (+a^5 +b)^9", "a c", 1);
        worth(c, "c (a -b)", "a b c", 1);
    }

    static void barredOnesAddNothing(Case c) {
        worth(c, "a -b^9", "a", 1);
        worth(c, "-b", "a", 0);
        worth(c, "a -(-a)^9", "a a", 2);
        worth(c, "a (-b)^9", "a", 1);
    }

    static void aBarredNodeHasItsOwnWorth(Case c) {
        c.words(0, 0, "b b");
        c.reads("a -b^3 -(b)^2", 5);
        c.same("worth(2, 0)", c.x.worth(2, 0), 6);
        c.same("worth(3, 0)", c.x.worth(3, 0), 4);
        c.same("worth(0, 0)", c.x.worth(0, 0), 0);
    }

    static void aNodeInAGroupHasItsOwnWorth(Case c) {
        c.words(0, 0, "a a");
        c.reads("(+a^3 +b)^5", 4);
        c.same("worth(2, 0)", c.x.worth(2, 0), 6);
        c.same("worth(3, 0)", c.x.worth(3, 0), 0);
        c.same("worth(1, 0)", c.x.worth(1, 0), 0);
    }

    static void boostsOfGroupsMultiply(Case c) {
        worth(c, "(((((a^2)^3)^4)^5)^6)^7", "a", 2 * 3 * 4 * 5 * 6 * 7);
    }

    static void theGreatestWorthIsALong(Case c) {
        for (int field = 0; field < 4; field++) {
            c.words(0, field, "a a a a a a a a a a a a");
        }
        StringBuilder text = new StringBuilder("(((((");
        for (int i = 0; i < 19; i++) {
            text.append("a^99 ");
        }
        text.append(")^99)^99)^99)^99)^99");
        c.reads(text.toString(), 25);
        c.same("worth(0, 0)", c.x.worth(0, 0), 19L * 48 * 99 * 99 * 99 * 99 * 99 * 99);
        c.same("worth(5, 0)", c.x.worth(5, 0), 19L * 48 * 99 * 99);
    }

    static void clausesOfOlderQueriesAddNothing(Case c) {
        c.words(0, 0, "a b");
        for (int round = 0; round < 2; round++) {
            c.reads("b b b", 4);
            c.same("worth(0, 0) of an older one", c.x.worth(0, 0), 3);
        }
        for (int round = 0; round < 2; round++) {
            c.reads("a", 2);
            c.same("worth(0, 0)", c.x.worth(0, 0), 1);
        }
    }

    static void nodesThatAreNoneAreUnknown(Case c) {
        c.reads("a b", 3);
        for (int k : new int[] {-1, 3, 24, 25, 26, Integer.MIN_VALUE, Integer.MAX_VALUE}) {
            c.same("worth(" + k + ", 0)", c.x.worth(k, 0), QueryTexts.UNKNOWN);
        }
    }

    static void documentsThatAreNoneAreUnknown(Case c) {
        c.reads("a b", 3);
        for (int document : new int[] {-1, 8, 9, Integer.MIN_VALUE, Integer.MAX_VALUE}) {
            c.same("worth(0, " + document + ")", c.x.worth(0, document), QueryTexts.UNKNOWN);
        }
        c.same("worth(0, 7)", c.x.worth(0, 7), 0);
    }

    static void withoutAQueryEachNodeIsUnknown(Case c) {
        c.same("worth(0, 0)", c.x.worth(0, 0), -101L);
        c.same("worth(1, 7)", c.x.worth(1, 7), -101L);
    }

    static void worthFollowsTheWords(Case c) {
        c.reads("a", 2);
        c.same("worth(0, 0)", c.x.worth(0, 0), 0);
        c.words(0, 0, "a");
        c.same("worth(0, 0)", c.x.worth(0, 0), 1);
        c.words(0, 3, "a");
        c.same("worth(0, 0)", c.x.worth(0, 0), 2);
        c.words(1, 0, "a");
        c.same("worth(0, 0)", c.x.worth(0, 0), 2);
        c.x.clear(0);
        c.same("worth(0, 0)", c.x.worth(0, 0), 0);
    }
}
