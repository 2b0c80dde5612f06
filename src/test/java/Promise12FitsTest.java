/** Promise 12: fits, with the terms of what FITS. */
public final class Promise12FitsTest {
    public static void main(String[] args) {
        Case.runAll(Promise12FitsTest.class);
    }

    /** Asks all of a query about a document with these words in field c. */
    private static void fits(Case c, String text, String words, int want) {
        Case each = c.anew();
        c.hold("'" + text + "' is a QUERY", Due.readText(each.x, text) > 1);
        if (!words.isEmpty()) {
            each.words(4, 2, words);
        }
        c.same("fits(0, 4) of '" + text + "' for '" + words + "'", each.x.fits(0, 4), want);
    }

    /** Each of these words alone fits, or does not. */
    private static void each(Case c, String text, String fitting, String others) {
        for (String word : wordsOf(fitting)) {
            fits(c, text, word, 1);
        }
        for (String word : wordsOf(others)) {
            fits(c, text, word, 0);
        }
    }

    private static String[] wordsOf(String words) {
        return words.isEmpty() ? new String[0] : words.split(" ");
    }

    // WORDS.

    static void aWordOfLettersFitsItselfAlone(Case c) {
        each(c, "abc", "abc", "ab abcd abd bbc cba a");
    }

    static void questionMarkIsOneLetterNeverNone(Case c) {
        each(c, "a?", "ab aa az", "a abc ba");
        each(c, "?", "a z", "aa");
    }

    static void eightQuestionMarksFit8Letters(Case c) {
        each(c, "????????", "abcdefgh zzzzzzzz", "abcdefg a");
    }

    static void starIsNoLetterToo(Case c) {
        each(c, "a*", "a ab abcdefgh", "b ba");
        each(c, "*a", "a ba hgfedcba", "b ab");
        each(c, "a*b", "ab aab abb axyzxyzb", "a b ba abc");
    }

    static void starAloneFitsEachWord(Case c) {
        each(c, "*", "a z abcdefgh", "");
        fits(c, "*", "", 0);
    }

    static void manyStarsFitAsOneDoes(Case c) {
        each(c, "********", "a abcdefgh", "");
        each(c, "a***b", "ab axb", "a b");
    }

    static void starsAndQuestionMarksTogether(Case c) {
        each(c, "?*", "a ab abcdefgh", "");
        each(c, "*?*?*", "ab abc abcdefgh", "a");
        each(c, "a*?b", "axb axxb abb", "ab b");
        each(c, "*a*b*", "ab xaybz aab", "ba a b");
        each(c, "*ab", "ab aab abab", "aba b");
    }

    static void starTakesBackWhatItTookTooMuch(Case c) {
        each(c, "a*ba", "abababa aba", "ab abab");
        each(c, "*aab", "aaab aab", "ab aabb");
    }

    // NEAR.

    static void near0FitsTheWordAlone(Case c) {
        each(c, "abc~0", "abc", "ab abd abcd");
    }

    static void near1FitsEachOneChange(Case c) {
        each(c, "abc~1", "abc ab bc ac abcd xabc axbc abxc xbc axc abx", "a b c abcde acb bac xyc ca");
    }

    static void near2FitsTwoChangesNotThree(Case c) {
        each(c, "abc~2", "a b c acb bac xyc axy abcde xabcx bca cba", "x xyz abcxyz");
    }

    static void nearAtTheShortestWord(Case c) {
        each(c, "a~1", "a b z ab ba aa", "bc bcd abc");
        each(c, "a~2", "a b bc ab abc bac xxa", "bcd abcd");
    }

    static void nearAtTheLongestWord(Case c) {
        each(c, "abcdefgh~1", "abcdefgh bcdefgh abcdefg abcdefgx xbcdefgh", "bcdefg xxcdefgh abcdefhg");
        each(c, "abcdefgh~2", "cdefgh abcdef xxcdefgh bcdefghx abcdefhg bcdefg", "abcde xxxdefgh");
    }

    // SPANS.

    static void aClosedSpanFitsItsEnds(Case c) {
        each(c, "[bb..dd]", "bb dd c bba bbzzzzzz dc", "ba b dda de a azzzzzzz e");
    }

    static void anOpenSpanFitsWhatIsBetweenItsEnds(Case c) {
        each(c, "{bb..dd}", "c bba bbzzzzzz dc d dczzzzzz", "bb dd ba b dda a e");
    }

    static void theShorterWordIsFirst(Case c) {
        each(c, "[ab..abc]", "ab aba abb abbz abc", "a abca abd aazzzzzz");
        each(c, "{ab..abc}", "aba abb abbz", "ab abc a abd");
        each(c, "[a..a]", "a", "aa b aaaaaaaa");
    }

    static void endsOf8Letters(Case c) {
        each(c, "[abcdefgh..abcdefgi]", "abcdefgh abcdefgi", "abcdefgg abcdefgj abcdefg abcdefh");
        each(c, "{abcdefgh..abcdefgj}", "abcdefgi", "abcdefgh abcdefgj abcdefg");
    }

    static void aSpanOfTheWholeAlphabet(Case c) {
        each(c, "[a..zzzzzzzz]", "a zzzzzzzz z m", "");
        each(c, "{a..zzzzzzzz}", "aa zzzzzzzy z m", "a zzzzzzzz");
    }

    static void aSpanBackwardFitsNothing(Case c) {
        each(c, "[b..a]", "", "a b ab c");
        each(c, "{b..a}", "", "a b ab c");
    }

    static void anOpenSpanOfOneWordFitsNothing(Case c) {
        each(c, "{ab..ab}", "", "ab a abc");
        each(c, "{a..aa}", "", "a aa ab");
    }

    // QUOTES.

    static void aQuoteOfOneWord(Case c) {
        fits(c, "\"b\"", "a b", 1);
        fits(c, "\"b\"~9", "a bb", 0);
    }

    static void wordsOfAQuoteStandInARow(Case c) {
        fits(c, "\"a b c\"", "x a b c y", 1);
        fits(c, "\"a b c\"", "a b x c", 0);
        fits(c, "\"a b c\"", "a x b c", 0);
        fits(c, "\"a b c\"", "c b a", 0);
        fits(c, "\"a b c\"", "a b", 0);
    }

    static void aQuoteAtTheFirstAndAtTheLastPlace(Case c) {
        fits(c, "\"a b\"", "a b c c c c c c c c c c", 1);
        fits(c, "\"a b\"", "c c c c c c c c c c a b", 1);
        fits(c, "\"b c\"", "c c c c c c c c c c a b", 0);
    }

    static void slackIsMetExactly(Case c) {
        fits(c, "\"a b\"~2", "a x x b", 1);
        fits(c, "\"a b\"~2", "a x x x b", 0);
        fits(c, "\"a b c\"~2", "a x b x c", 1);
        fits(c, "\"a b c\"~2", "a b x x c", 1);
        fits(c, "\"a b c\"~2", "a x x b x c", 0);
    }

    static void slackOf9(Case c) {
        fits(c, "\"a b\"~9", "a x x x x x x x x x b", 1);
        fits(c, "\"a b\"~9", "a x x x x x x x x x x b", 0);
        fits(c, "\"a b c\"~9", "a x x x x b x x x x x c", 1);
    }

    static void placesRiseEvenWithSlack(Case c) {
        fits(c, "\"a b\"~9", "b a", 0);
        fits(c, "\"a b c\"~9", "a c b", 0);
    }

    static void aWordTwiceNeedsTwoPlaces(Case c) {
        fits(c, "\"a a\"", "a", 0);
        fits(c, "\"a a\"~9", "a x x", 0);
        fits(c, "\"a a\"", "a a", 1);
        fits(c, "\"a b a\"~1", "a b x a", 1);
    }

    static void aLaterBeginningMayBeNearEnough(Case c) {
        fits(c, "\"a b\"", "a a b", 1);
        fits(c, "\"a b c\"", "a b a b c", 1);
        fits(c, "\"a b c\"~1", "a x x b a b x c", 1);
    }

    static void aQuoteOf5Words(Case c) {
        fits(c, "\"a b c d e\"", "a b c d e", 1);
        fits(c, "\"a b c d e\"", "a b c d", 0);
        fits(c, "\"a b c d e\"~7", "a x x x x x x x b c d e", 1);
        fits(c, "\"a b c d e\"~6", "a x x x x x x x b c d e", 0);
    }

    static void quotedWordsFitWhole(Case c) {
        fits(c, "\"a b\"", "ab bb", 0);
        fits(c, "\"abcdefgh abcdefgi\"", "abcdefgh abcdefgi", 1);
        fits(c, "\"abcdefgh abcdefgi\"", "abcdefgh abcdefgh", 0);
    }

    static void aQuoteStandsInOneField(Case c) {
        c.words(0, 0, "x a");
        c.words(0, 1, "b x");
        c.reads("\"a b\"~9", 2);
        c.same("fits(1, 0)", c.x.fits(1, 0), 0);
        c.words(0, 3, "a b");
        c.same("fits(1, 0)", c.x.fits(1, 0), 1);
    }

    static void aQuoteDoesNotReachIntoTheNextDocument(Case c) {
        c.words(0, 3, "b b b b b b b b b b b a");
        c.words(1, 0, "b");
        c.reads("\"a b\"~9", 2);
        c.same("fits(1, 0)", c.x.fits(1, 0), 0);
        c.same("fits(1, 1)", c.x.fits(1, 1), 0);
    }

    static void aQuoteDoesNotReachFromAFullFieldIntoTheNext(Case c) {
        c.words(0, 1, "b b b b b b b b b b b a");
        c.words(0, 2, "b");
        c.reads("\"a b\"~9 c:\"a b\"~9", 3);
        c.same("fits(1, 0)", c.x.fits(1, 0), 0);
        c.same("fits(2, 0)", c.x.fits(2, 0), 0);
    }

    static void wordsThatWereClearedAreNotInAQuote(Case c) {
        c.words(0, 0, "a b");
        c.x.clear(0);
        c.words(0, 0, "a");
        c.reads("\"a b\"", 2);
        c.same("fits(1, 0)", c.x.fits(1, 0), 0);
    }

    // FIELDS.

    static void aFieldToldIsLookedAtAlone(Case c) {
        for (int field = 0; field < 4; field++) {
            c.words(field, field, "w");
        }
        c.reads("a:w b:w c:w d:w", 5);
        for (int k = 1; k <= 4; k++) {
            for (int document = 0; document < 4; document++) {
                c.same("fits(" + k + ", " + document + ")", c.x.fits(k, document), k - 1 == document ? 1 : 0);
            }
        }
    }

    static void aFieldToldAtEachCore(Case c) {
        c.words(0, 0, "w");
        c.words(1, 1, "w");
        c.reads("b:w b:\"w\" b:[w..w] b:{v..x} b:w~1 b:(w)", 8);
        for (int k = 1; k < 8; k++) {
            c.same("fits(" + k + ", 0)", c.x.fits(k, 0), 0);
            c.same("fits(" + k + ", 1)", c.x.fits(k, 1), 1);
        }
    }

    static void withoutAFieldAllFourAreLookedAt(Case c) {
        for (int field = 0; field < 4; field++) {
            c.words(field, field, "w");
        }
        c.reads("w \"w\" [w..w] (w)", 6);
        for (int k = 0; k < 6; k++) {
            for (int document = 0; document < 8; document++) {
                c.same("fits(" + k + ", " + document + ")", c.x.fits(k, document), document < 4 ? 1 : 0);
            }
        }
    }

    static void theFieldOfTheGroupAroundIsTaken(Case c) {
        c.words(0, 1, "w");
        c.words(1, 2, "w");
        c.reads("b:(w \"w\" [w..w])", 5);
        for (int k = 0; k < 5; k++) {
            c.same("fits(" + k + ", 0)", c.x.fits(k, 0), 1);
            c.same("fits(" + k + ", 1)", c.x.fits(k, 1), 0);
        }
    }

    static void theFieldOfAGroup5LevelsOutIsTaken(Case c) {
        c.words(0, 3, "w");
        c.words(1, 0, "w");
        c.reads("d:(((((w)))))", 7);
        c.same("fits(6, 0)", c.x.fits(6, 0), 1);
        c.same("fits(6, 1)", c.x.fits(6, 1), 0);
    }

    static void theNearestFieldAroundIsTaken(Case c) {
        c.words(0, 0, "w");
        c.words(1, 1, "w");
        c.words(2, 2, "w");
        c.reads("a:(b:((w) c:w) w)", 7);
        int[] nodes = {4, 5, 6};
        int[] fields = {1, 2, 0};
        for (int i = 0; i < 3; i++) {
            for (int document = 0; document < 3; document++) {
                c.same("fits(" + nodes[i] + ", " + document + ")", c.x.fits(nodes[i], document), fields[i] == document ? 1 : 0);
            }
        }
    }

    static void aFieldToldBesideIsNotTaken(Case c) {
        c.words(0, 0, "w");
        c.reads("b:x w (c:y w) b:(x) w", 9);
        c.same("fits(2, 0)", c.x.fits(2, 0), 1);
        c.same("fits(5, 0)", c.x.fits(5, 0), 1);
        c.same("fits(8, 0)", c.x.fits(8, 0), 1);
    }

    // GROUPS.

    static void whatMustBeIsNeeded(Case c) {
        fits(c, "+a +b", "a b", 1);
        fits(c, "+a +b", "a", 0);
        fits(c, "+a +b", "b", 0);
        fits(c, "+a", "", 0);
    }

    static void whatMayBeIsNotNeededBesideWhatMust(Case c) {
        fits(c, "+a b", "a", 1);
        fits(c, "+a b", "b", 0);
        fits(c, "b +a", "a", 1);
    }

    static void oneOfThoseThatMayBeIsNeededWithoutOneThatMust(Case c) {
        fits(c, "a b", "a", 1);
        fits(c, "a b", "b", 1);
        fits(c, "a b", "c", 0);
        fits(c, "a -b", "c", 0);
    }

    static void whatIsBarredMustNotFit(Case c) {
        fits(c, "+a -b", "a", 1);
        fits(c, "+a -b", "a b", 0);
        fits(c, "a -b", "a b", 0);
        fits(c, "-b -c", "c", 0);
    }

    static void barredOnesAloneNeedNothing(Case c) {
        fits(c, "-a", "b", 1);
        fits(c, "-a", "", 1);
        fits(c, "-a -b", "c", 1);
        fits(c, "-a", "a", 0);
    }

    static void leastToldIsMetExactly(Case c) {
        fits(c, "(a b c)@2", "a", 0);
        fits(c, "(a b c)@2", "a c", 1);
        fits(c, "(a b c)@2", "a b c", 1);
        fits(c, "(a b c)@3", "a b", 0);
        fits(c, "(a b c)@3", "a b c", 1);
    }

    static void leastMoreThanThereAreFitsNothing(Case c) {
        fits(c, "(a)@2", "a", 0);
        fits(c, "(a b c d e f g h)@9", "a b c d e f g h", 0);
        fits(c, "(a b c d e f g h i)@9", "a b c d e f g h i", 1);
    }

    static void oneClauseThatFitsOftenCountsOnceForLeast(Case c) {
        fits(c, "(a b)@2", "a a a", 0);
        fits(c, "(a a)@2", "a", 1);
    }

    static void leastToldHoldsBesideWhatMustBe(Case c) {
        fits(c, "(+a b c)@1", "a", 0);
        fits(c, "(+a b c)@1", "a c", 1);
        fits(c, "(+a b c)@2", "a c", 0);
        fits(c, "(+a b c)@1", "b c", 0);
    }

    static void leastToldHoldsWhereNoneMay(Case c) {
        fits(c, "(+a)@1", "a", 0);
        fits(c, "(-a)@1", "b", 0);
        fits(c, "(+a -b)@1", "a", 0);
    }

    static void leastNotToldWhereNoneMay(Case c) {
        fits(c, "(+a)", "a", 1);
        fits(c, "(-a)", "b", 1);
        fits(c, "(+a -b)", "a", 1);
    }

    static void aGroupMustMayOrIsBarred(Case c) {
        fits(c, "+(a b)@2 c", "a b", 1);
        fits(c, "+(a b)@2 c", "a c", 0);
        fits(c, "(a b)@2 c", "a c", 1);
        fits(c, "(a b)@2 c", "a", 0);
        fits(c, "-(a b)@2 c", "a c", 1);
        fits(c, "-(a b)@2 c", "a b c", 0);
        fits(c, "-(-a)", "a", 1);
        fits(c, "-(-a)", "b", 0);
    }

    static void groups5Deep(Case c) {
        fits(c, "(((((a)))))", "a", 1);
        fits(c, "(((((a)))))", "b", 0);
        fits(c, "-(-(-(-(-(a)))))", "a", 0);
        fits(c, "-(-(-(-(-(a)))))", "b", 1);
    }

    static void aGroupsBoostOf0FitsStill(Case c) {
        fits(c, "(a^0)^0", "a", 1);
        fits(c, "-a^0 b", "a b", 0);
        fits(c, "+a^0", "a", 1);
    }

    static void eachNodeIsAskedOnItsOwn(Case c) {
        c.words(0, 0, "a c");
        c.reads("+(a b)@2 -c (+a -b)", 8);
        int[] wants = {0, 0, 1, 0, 1, 1, 1, 0};
        for (int k = 0; k < wants.length; k++) {
            c.same("fits(" + k + ", 0)", c.x.fits(k, 0), wants[k]);
        }
    }

    static void clausesOfOlderQueriesAreNotAsked(Case c) {
        c.words(0, 0, "a");
        for (int round = 0; round < 2; round++) {
            c.reads("+x +x +x (+y)@9", 6);
            c.same("fits(0, 0) of an older one", c.x.fits(0, 0), 0);
        }
        for (int round = 0; round < 2; round++) {
            c.reads("a", 2);
            c.same("fits(0, 0)", c.x.fits(0, 0), 1);
        }
    }

    // Refusals.

    static void nodesThatAreNoneAreUnknown(Case c) {
        c.reads("a b", 3);
        for (int k : new int[] {-1, 3, 24, 25, 26, Integer.MIN_VALUE, Integer.MAX_VALUE}) {
            c.same("fits(" + k + ", 0)", c.x.fits(k, 0), QueryTexts.UNKNOWN);
        }
        c.same("fits(2, 0)", c.x.fits(2, 0), 0);
    }

    static void documentsThatAreNoneAreUnknown(Case c) {
        c.reads("-a", 2);
        for (int document : new int[] {-1, 8, 9, Integer.MIN_VALUE, Integer.MAX_VALUE}) {
            c.same("fits(0, " + document + ")", c.x.fits(0, document), QueryTexts.UNKNOWN);
        }
        c.same("fits(0, 7)", c.x.fits(0, 7), 1);
    }

    static void withoutAQueryEachNodeIsUnknown(Case c) {
        c.same("fits(0, 0)", c.x.fits(0, 0), QueryTexts.UNKNOWN);
        c.same("fits(1, 7)", c.x.fits(1, 7), QueryTexts.UNKNOWN);
        c.same("fits(0, 8)", c.x.fits(0, 8), QueryTexts.UNKNOWN);
    }

    static void the24thClauseIsAsked(Case c) {
        c.words(7, 3, "y");
        c.reads("z ".repeat(23) + "y", 25);
        c.same("fits(24, 7)", c.x.fits(24, 7), 1);
        c.same("fits(23, 7)", c.x.fits(23, 7), 0);
        c.same("fits(0, 7)", c.x.fits(0, 7), 1);
        c.same("fits(25, 7)", c.x.fits(25, 7), QueryTexts.UNKNOWN);
    }
}
