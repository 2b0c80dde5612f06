/** Promise 14: ratio. */
public final class Promise14RatioTest {
    private static final int[] NO_DOCUMENTS = {-1, 8, 9, Integer.MIN_VALUE, Integer.MAX_VALUE};

    public static void main(String[] args) {
        Case.runAll(Promise14RatioTest.class);
    }

    /** Document 0 has seven words a, document 1 two, document 2 one, document 3 has b alone. */
    private static void fill(Case c) {
        c.words(0, 0, "a a a a a a a");
        c.words(1, 1, "a a");
        c.words(2, 2, "a");
        c.words(3, 3, "b");
    }

    static void exactly(Case c) {
        fill(c);
        c.reads("a", 2);
        c.same("ratio(1, 2)", c.x.ratio(1, 2), 2);
        c.same("ratio(0, 2)", c.x.ratio(0, 2), 7);
    }

    static void downward(Case c) {
        fill(c);
        c.reads("a", 2);
        c.same("ratio(0, 1)", c.x.ratio(0, 1), 3);
        c.reads("a^3", 2);
        c.same("ratio(0, 1)", c.x.ratio(0, 1), 3);
    }

    static void lessThanOneIs0(Case c) {
        fill(c);
        c.reads("a", 2);
        c.same("ratio(1, 0)", c.x.ratio(1, 0), 0);
        c.same("ratio(2, 1)", c.x.ratio(2, 1), 0);
    }

    static void byItselfIs1(Case c) {
        fill(c);
        c.reads("a", 2);
        c.same("ratio(0, 0)", c.x.ratio(0, 0), 1);
        c.same("ratio(2, 2)", c.x.ratio(2, 2), 1);
    }

    static void ofOneThatDoesNotFitIs0(Case c) {
        fill(c);
        c.reads("a", 2);
        c.same("ratio(3, 1)", c.x.ratio(3, 1), 0);
        c.same("ratio(3, 2)", c.x.ratio(3, 2), 0);
        c.same("ratio(7, 1)", c.x.ratio(7, 1), 0);
    }

    static void byOneThatDoesNotFitThrows(Case c) {
        fill(c);
        c.reads("a", 2);
        c.told("ratio(0, 3)", () -> c.x.ratio(0, 3), Due.BY_NOTHING);
        c.told("ratio(0, 7)", () -> c.x.ratio(0, 7), Due.BY_NOTHING);
    }

    static void byOneThatFitsAndIsWorth0Throws(Case c) {
        fill(c);
        c.reads("a^0", 2);
        c.told("ratio(0, 1)", () -> c.x.ratio(0, 1), Due.BY_NOTHING);
        c.reads("-z", 2);
        c.told("ratio(0, 7)", () -> c.x.ratio(0, 7), Due.BY_NOTHING);
    }

    static void nothingByNothingThrows(Case c) {
        c.reads("a", 2);
        c.told("ratio(0, 1)", () -> c.x.ratio(0, 1), Due.BY_NOTHING);
        c.told("ratio(5, 5)", () -> c.x.ratio(5, 5), Due.BY_NOTHING);
    }

    static void ofAllOfTheQuery(Case c) {
        fill(c);
        c.reads("a^2 (b)^9", 4);
        c.same("ratio(3, 2)", c.x.ratio(3, 2), 4);
        c.same("ratio(0, 3)", c.x.ratio(0, 3), 1);
    }

    static void longWorths(Case c) {
        c.words(6, 0, "a a a a a a a a a a a a");
        c.words(7, 0, "b");
        c.reads("(((((a^99)^99)^99)^99)^99)^99 b", 8);
        c.same("ratio(6, 7)", c.x.ratio(6, 7), 12L * 99 * 99 * 99 * 99 * 99 * 99);
        c.same("ratio(7, 6)", c.x.ratio(7, 6), 0);
        c.reads("(((((a^99)^99)^99)^99)^99)^99 b^2", 8);
        c.same("ratio(6, 7)", c.x.ratio(6, 7), 6L * 99 * 99 * 99 * 99 * 99 * 99);
    }

    static void aDocumentThatIsNoneIsUnknown(Case c) {
        fill(c);
        c.reads("a", 2);
        for (int document : NO_DOCUMENTS) {
            c.same("ratio(" + document + ", 0)", c.x.ratio(document, 0), -101L);
        }
    }

    static void anotherThatIsNoneIsUnknown(Case c) {
        fill(c);
        c.reads("a", 2);
        for (int document : NO_DOCUMENTS) {
            c.same("ratio(0, " + document + ")", c.x.ratio(0, document), -101L);
        }
    }

    static void withoutAQueryIsState(Case c) {
        c.told("ratio(0, 1)", () -> c.x.ratio(0, 1), "-104");
        c.told("ratio(7, 7)", () -> c.x.ratio(7, 7), "-104");
    }

    static void unknownIsAheadOfState(Case c) {
        for (int document : NO_DOCUMENTS) {
            c.same("ratio(" + document + ", 0)", c.x.ratio(document, 0), -101L);
            c.same("ratio(0, " + document + ")", c.x.ratio(0, document), -101L);
        }
    }

    static void unknownIsAheadOfTheException(Case c) {
        c.reads("a", 2);
        for (int document : NO_DOCUMENTS) {
            c.told("ratio(" + document + ", 0)", () -> c.x.ratio(document, 0), "-101");
            c.told("ratio(0, " + document + ")", () -> c.x.ratio(0, document), "-101");
        }
    }
}
