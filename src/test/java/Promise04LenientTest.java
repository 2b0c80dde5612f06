/** Promise 4: lenient. */
public final class Promise04LenientTest {
    public static void main(String[] args) {
        Case.runAll(Promise04LenientTest.class);
    }

    static void aQueryIsReadAndNothingDropped(Case c) {
        c.lenient(" +a:b  (c d)@2 ", 5, "");
        c.prints("+a:b (c d)@2");
    }

    static void theWrongByteIsDropped(Case c) {
        c.lenient("aXb", 2, "1");
        c.prints("ab");
    }

    static void theFirstByteIsDropped(Case c) {
        c.lenient(")a", 2, "0");
        c.prints("a");
    }

    static void theLastByteIsDropped(Case c) {
        c.lenient("a)", 2, "1");
        c.prints("a");
    }

    static void severalWrongBytesAreDropped(Case c) {
        c.lenient("XYaZb)", 2, "0 1 3 5");
        c.prints("ab");
    }

    static void theByteBehindADroppedOneIsReadInItsPlace(Case c) {
        c.lenient("a~3Z2", 2, "2 3");
        c.prints("a~2");
        c.lenient("a^1x2y3", 2, "3 5 6");
        c.prints("a^12");
    }

    static void aTextThatEndsTooEarlyLosesItsLastByte(Case c) {
        c.lenient("a +", 2, "2");
        c.prints("a");
        c.lenient("a:", 2, "1");
        c.prints("a");
        c.lenient("ab~", 2, "2");
        c.prints("ab");
        c.lenient("\"a\"^", 2, "3");
        c.prints("\"a\"");
    }

    static void aTextThatEndsTooEarlyLosesBytesUntilItIsAQuery(Case c) {
        c.lenient("a (b c", 2, "5 4 3 2");
        c.prints("a");
        c.lenient("a \"b c", 2, "5 4 3 2");
        c.prints("a");
        c.lenient("(a) d:[b..c", 4, "10 9 8 7 6 5");
        c.prints("(a) d");
    }

    static void wrongBytesAreDroppedAheadOfThoseAtTheEnd(Case c) {
        c.lenient("a Z(b Y", 2, "2 6 5 4 3");
        c.prints("a");
    }

    static void anEmptyTapeAnswersNone(Case c) {
        c.lenient("", QueryTexts.NONE, "");
    }

    static void blanksAloneAnswerNone(Case c) {
        c.lenient("   ", QueryTexts.NONE, "2 1 0");
    }

    static void wrongBytesAloneAnswerNone(Case c) {
        c.lenient("XYZ", QueryTexts.NONE, "0 1 2");
    }

    static void beginningsAloneAnswerNone(Case c) {
        c.lenient("+", QueryTexts.NONE, "0");
        c.lenient("(", QueryTexts.NONE, "0");
        c.lenient("((a", QueryTexts.NONE, "2 1 0");
        c.lenient("\"a ", QueryTexts.NONE, "2 1 0");
        c.lenient("{a..b", QueryTexts.NONE, "4 3 2 1 0");
        c.lenient("()", QueryTexts.NONE, "1 0");
    }

    static void noneKeepsTheQuery(Case c) {
        c.reads("a:(b c)@2^3", 4);
        c.lenient("\"x y z \"", QueryTexts.NONE, "7 6 5 4 3 2 1 0");
        c.prints("a:(b c)@2^3");
        c.node(3, "0 0 1 -1 0 1 1");
    }

    static void noneWithoutAQueryLeavesNone(Case c) {
        c.lenient("(a", QueryTexts.NONE, "1 0");
        c.same("print()", c.x.print(), QueryTexts.STATE);
        c.told("node(0, 0)", () -> c.x.node(0, 0), Due.OUTSIDE_ROW);
    }

    static void theTapeIsEmptyBehindAQuery(Case c) {
        c.lenient("aXb", 2, "1");
        c.same("feed(1, 'z')", c.x.feed(1, 'z'), 1);
        c.reads("", 2);
        c.prints("z");
    }

    static void theTapeIsEmptyBehindNone(Case c) {
        c.lenient("(((", QueryTexts.NONE, "2 1 0");
        c.same("feed(1, 'z')", c.x.feed(1, 'z'), 1);
        c.reads("", 2);
        c.prints("z");
    }

    static void aSecondLenientHasNothingToRead(Case c) {
        c.lenient("ab", 2, "");
        c.same("lenient()", c.x.lenient(), QueryTexts.NONE);
        c.prints("ab");
    }

    static void the9thSignIsDropped(Case c) {
        c.lenient("abcdefghi", 2, "8");
        c.prints("abcdefgh");
        c.lenient("abcdefghijk^2", 2, "8 9 10");
        c.prints("abcdefgh^2");
    }

    static void theBlankBehindTheFifthQuotedWordIsDropped(Case c) {
        c.lenient("\"a b c d e f\"", 2, "10");
        c.prints("\"a b c d ef\"");
    }

    static void theSixthGroupWithinIsDropped(Case c) {
        c.lenient("((((((a))))))", 7, "5 12");
        c.prints("(((((a)))))");
    }

    static void the25thClauseIsDropped(Case c) {
        c.lenient("z ".repeat(24) + "y +x", 25, "48 50 51");
        c.prints("z ".repeat(24).trim());
    }

    static void aGroupThatWouldBeThe24thLosesItsSigns(Case c) {
        c.lenient("z ".repeat(23) + "(x)", 25, "46 48");
        c.prints("z ".repeat(23) + "x");
    }

    static void all240BytesAreDroppedFromTheFirst(Case c) {
        c.same("lenient()", Due.lenientText(c.x, "Z".repeat(240)), QueryTexts.NONE);
        for (int k = 0; k < 240; k++) {
            c.same("dropped(" + k + ")", c.x.dropped(k), k);
        }
        c.same("dropped(240)", c.x.dropped(240), QueryTexts.NONE);
    }

    static void all240BytesAreDroppedFromTheLast(Case c) {
        c.same("lenient()", Due.lenientText(c.x, "(" + "a ".repeat(23) + " ".repeat(193)), QueryTexts.NONE);
        for (int k = 0; k < 240; k++) {
            c.same("dropped(" + k + ")", c.x.dropped(k), 239 - k);
        }
        c.same("dropped(240)", c.x.dropped(240), QueryTexts.NONE);
    }

    static void aQueryOf240BytesIsRead(Case c) {
        c.lenient(" ".repeat(238) + "+a", 2, "");
        c.lenient(" ".repeat(237) + "+a:", 2, "239");
        c.prints("+a");
    }

    static void theQueryIsThatOfTheBytesLeft(Case c) {
        c.lenient("x:(b c)@02^3^4", 3, "1 2 6 7 8 9 12");
        c.prints("xb c^34");
    }
}
