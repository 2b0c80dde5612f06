/** Promise 11: clear. */
public final class Promise11ClearTest {
    public static void main(String[] args) {
        Case.runAll(Promise11ClearTest.class);
    }

    static void aDocumentWithoutWordsHad0(Case c) {
        for (int document = 0; document < 8; document++) {
            c.same("clear(" + document + ")", c.x.clear(document), 0);
        }
    }

    static void theWordsOfAllFieldsAreCounted(Case c) {
        c.words(3, 0, "a");
        c.words(3, 1, "a b");
        c.words(3, 2, "a b c");
        c.words(3, 3, "a b c d");
        c.same("clear(3)", c.x.clear(3), 10);
    }

    static void aFullDocumentHad48(Case c) {
        for (int field = 0; field < 4; field++) {
            c.words(7, field, "a b c d e f g h i j k l");
        }
        c.same("clear(7)", c.x.clear(7), 48);
    }

    static void aSecondClearFinds0(Case c) {
        c.words(0, 3, "a b");
        c.same("clear(0)", c.x.clear(0), 2);
        c.same("clear(0)", c.x.clear(0), 0);
    }

    static void noWordFitsBehindIt(Case c) {
        c.words(0, 0, "a");
        c.words(0, 3, "a");
        c.reads("a", 2);
        c.same("worth(0, 0)", c.x.worth(0, 0), 2);
        c.x.clear(0);
        c.same("fits(0, 0)", c.x.fits(0, 0), 0);
        c.same("worth(0, 0)", c.x.worth(0, 0), 0);
    }

    static void theNextWordIsTheFirst(Case c) {
        for (int field = 0; field < 4; field++) {
            c.words(5, field, "a b c d e f g h i j k l");
        }
        c.same("a word ahead of clear", c.x.word(5, 2, 'z'), QueryTexts.FULL);
        c.x.clear(5);
        for (int field = 0; field < 4; field++) {
            c.same("word(5, " + field + ")", c.x.word(5, field, 'z'), 1);
        }
        c.reads("* a", 3);
        c.same("worth(1, 5)", c.x.worth(1, 5), 4);
        c.same("worth(2, 5)", c.x.worth(2, 5), 0);
    }

    static void otherDocumentsKeepTheirWords(Case c) {
        for (int document = 0; document < 8; document++) {
            c.words(document, 0, "a");
            c.words(document, 3, "a");
        }
        c.same("clear(3)", c.x.clear(3), 2);
        c.reads("a", 2);
        for (int document = 0; document < 8; document++) {
            c.same("worth(0, " + document + ")", c.x.worth(0, document), document == 3 ? 0 : 2);
        }
    }

    static void documentsThatAreNoneAreUnknown(Case c) {
        for (int document : new int[] {-1, 8, 9, Integer.MIN_VALUE, Integer.MAX_VALUE, 1 << 30, 1 << 29}) {
            c.same("clear(" + document + ")", c.x.clear(document), QueryTexts.UNKNOWN);
        }
    }

    static void unknownChangesNothing(Case c) {
        for (int document = 0; document < 8; document++) {
            c.words(document, 0, "a");
            c.words(document, 3, "a");
        }
        c.x.clear(-1);
        c.x.clear(8);
        c.x.clear(Integer.MIN_VALUE);
        for (int document = 0; document < 8; document++) {
            c.same("clear(" + document + ")", c.x.clear(document), 2);
        }
    }

    static void theQueryStays(Case c) {
        c.words(0, 0, "a");
        c.reads("a", 2);
        c.x.clear(0);
        c.prints("a");
    }
}
