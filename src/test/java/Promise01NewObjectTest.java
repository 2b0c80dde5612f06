/** Promise 1: a new object. */
public final class Promise01NewObjectTest {
    public static void main(String[] args) {
        Case.runAll(Promise01NewObjectTest.class);
    }

    static void noDocumentHasWords(Case c) {
        for (int document = 0; document < 8; document++) {
            c.same("clear(" + document + ")", c.x.clear(document), 0);
        }
    }

    static void theFirstWordOfEachFieldIsTheOnlyOne(Case c) {
        for (int document = 0; document < 8; document++) {
            for (int field = 0; field < 4; field++) {
                c.same("word(" + document + ", " + field + ")", c.x.word(document, field, 'a'), 1);
            }
        }
    }

    static void noWordFitsInAnyDocument(Case c) {
        c.reads("*", 2);
        for (int document = 0; document < 8; document++) {
            c.same("fits(1, " + document + ")", c.x.fits(1, document), 0);
        }
    }

    static void theTapeIsEmptyForFeed(Case c) {
        c.same("feed(1, 'a')", c.x.feed(1, 'a'), 1);
    }

    static void theTapeIsEmptyForRead(Case c) {
        c.same("read()", c.x.read(), -200);
    }

    static void theTapeIsEmptyForLenient(Case c) {
        c.same("lenient()", c.x.lenient(), QueryTexts.NONE);
    }

    static void thereIsNoQueryToPrint(Case c) {
        c.same("print()", c.x.print(), QueryTexts.STATE);
    }

    static void thereIsNoNode(Case c) {
        for (int k = -1; k < 26; k++) {
            int node = k;
            c.told("node(" + k + ", 0)", () -> c.x.node(node, 0), Due.OUTSIDE_ROW);
            c.told("sign(" + k + ", 0, 0)", () -> c.x.sign(node, 0, 0), Due.OUTSIDE_ROW);
            c.same("fits(" + k + ", 0)", c.x.fits(k, 0), QueryTexts.UNKNOWN);
            c.same("worth(" + k + ", 0)", c.x.worth(k, 0), QueryTexts.UNKNOWN);
        }
    }

    static void thereIsNoQueryToAsk(Case c) {
        c.same("ratio(0, 1)", c.x.ratio(0, 1), QueryTexts.STATE);
        c.same("why(0)", c.x.why(0), QueryTexts.STATE);
        c.same("rank(0)", c.x.rank(0), QueryTexts.STATE);
    }

    static void nothingWasPrinted(Case c) {
        c.told("out(0)", () -> c.x.out(0), Due.NO_PRINT);
    }

    static void nothingWasDropped(Case c) {
        c.same("dropped(0)", c.x.dropped(0), QueryTexts.NONE);
    }

    static void whatAnotherObjectHasIsNotItsOwn(Case c) {
        Case other = c.anew();
        other.lenient("aXb", 2, "1");
        other.prints("ab");
        other.words(0, 0, "ab");
        other.feeds("abc");
        c.same("dropped(0)", c.x.dropped(0), QueryTexts.NONE);
        c.told("out(0)", () -> c.x.out(0), Due.NO_PRINT);
        c.same("print()", c.x.print(), QueryTexts.STATE);
        c.same("clear(0)", c.x.clear(0), 0);
        c.same("feed(1, 'z')", c.x.feed(1, 'z'), 1);
        c.same("read()", c.x.read(), 2);
        other.prints("ab");
        other.same("fits(0, 0)", other.x.fits(0, 0), 1);
        other.same("read()", other.x.read(), 2);
        other.prints("abc");
    }
}
