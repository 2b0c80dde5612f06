/** Promise 15: why. */
public final class Promise15WhyTest {
    private static final int[] NO_DOCUMENTS = {-1, 8, 9, Integer.MIN_VALUE, Integer.MAX_VALUE};

    public static void main(String[] args) {
        Case.runAll(Promise15WhyTest.class);
    }

    private static void why(Case c, String text, String words, int want) {
        Case each = c.anew();
        c.hold("'" + text + "' is a QUERY", Due.readText(each.x, text) > 1);
        each.words(7, 3, words);
        c.same("why(7) of '" + text + "' for '" + words + "'", each.x.why(7), want);
    }

    static void oneThatFitsIsNone(Case c) {
        why(c, "a", "a", QueryTexts.NONE);
        why(c, "+a -b c", "a", QueryTexts.NONE);
        why(c, "-b", "a", QueryTexts.NONE);
        why(c, "a^0", "a", QueryTexts.NONE);
    }

    static void theFirstThatMustBeAndDoesNotFit(Case c) {
        why(c, "+a", "x", 1);
        why(c, "+a +b +c", "a", 2);
        why(c, "+a +b +c", "b", 1);
        why(c, "+a +b +c", "a b", 3);
    }

    static void theFirstBarredThatFits(Case c) {
        why(c, "-a", "a", 1);
        why(c, "-a -b -c", "b c", 2);
        why(c, "x -b", "x b", 2);
    }

    static void whatMustBeIsAheadOfWhatIsBarred(Case c) {
        why(c, "-a +b", "a", 2);
        why(c, "-a -b +c +d", "a b c", 4);
    }

    static void tooFewThatMayBeIs0(Case c) {
        why(c, "a", "x", 0);
        why(c, "a b -c", "x", 0);
    }

    static void whatIsBarredIsAheadOfTooFew(Case c) {
        why(c, "a -c", "c", 2);
    }

    static void aGroupIsToldNotWhatIsInIt(Case c) {
        why(c, "x +(+a +b)", "x a", 2);
        why(c, "x -(+a b)", "x a", 2);
        why(c, "+(x) +(+(a) b)", "x b", 3);
    }

    static void clausesOfAGroupThatMayBeAreNotTold(Case c) {
        why(c, "(+a)", "x", 0);
        why(c, "(-a)", "a", 0);
        why(c, "(+a -b) (+c)", "b", 0);
    }

    static void nodesBehindGroupsHaveTheirOwnNumbers(Case c) {
        why(c, "(a b) +(c) +d", "a c", 6);
        why(c, "(a (b)) -x", "a x", 5);
    }

    static void the24thClause(Case c) {
        why(c, "z ".repeat(23) + "+y", "z", 24);
        why(c, "z ".repeat(23) + "-y", "z y", 24);
    }

    static void aDocumentWithoutWords(Case c) {
        c.reads("a", 2);
        c.same("why(0)", c.x.why(0), 0);
        c.reads("+a", 2);
        c.same("why(0)", c.x.why(0), 1);
        c.reads("-a", 2);
        c.same("why(0)", c.x.why(0), QueryTexts.NONE);
    }

    static void eachDocumentIsAskedAnew(Case c) {
        c.words(0, 0, "a");
        c.words(1, 0, "b");
        c.words(2, 0, "a b");
        c.reads("+a +b", 3);
        c.same("why(0)", c.x.why(0), 2);
        c.same("why(1)", c.x.why(1), 1);
        c.same("why(2)", c.x.why(2), QueryTexts.NONE);
        c.same("why(0)", c.x.why(0), 2);
    }

    static void clausesOfOlderQueriesAreNotTold(Case c) {
        c.words(0, 0, "b");
        for (int round = 0; round < 2; round++) {
            c.reads("-b +x +x", 4);
            c.same("why(0) of an older one", c.x.why(0), 2);
        }
        for (int round = 0; round < 2; round++) {
            c.reads("a", 2);
            c.same("why(0)", c.x.why(0), 0);
        }
    }

    static void documentsThatAreNoneAreUnknown(Case c) {
        c.reads("a", 2);
        for (int document : NO_DOCUMENTS) {
            c.same("why(" + document + ")", c.x.why(document), QueryTexts.UNKNOWN);
        }
    }

    static void withoutAQueryIsState(Case c) {
        for (int document = 0; document < 8; document++) {
            c.same("why(" + document + ")", c.x.why(document), QueryTexts.STATE);
        }
    }

    static void unknownIsAheadOfState(Case c) {
        for (int document : NO_DOCUMENTS) {
            c.same("why(" + document + ")", c.x.why(document), QueryTexts.UNKNOWN);
        }
    }
}
