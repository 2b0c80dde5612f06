/** Promise 8: print. */
public final class Promise08PrintTest {
    public static void main(String[] args) {
        Case.runAll(Promise08PrintTest.class);
    }

    private static void prints(Case c, String text, String want) {
        c.hold("'" + text + "' is a QUERY", Due.readText(c.x, text) > 1);
        c.prints(want);
    }

    static void withoutAQueryIsState(Case c) {
        c.same("print()", c.x.print(), QueryTexts.STATE);
        c.wrongAt("(", 1);
        c.same("print()", c.x.print(), QueryTexts.STATE);
        c.lenient("(", QueryTexts.NONE, "0");
        c.same("print()", c.x.print(), QueryTexts.STATE);
    }

    static void oneSignIsOneByte(Case c) {
        c.reads("a", 2);
        c.same("print()", c.x.print(), 1);
    }

    static void oneBlankBetweenClausesNoneAheadOrBehind(Case c) {
        prints(c, "   a    b  ", "a b");
    }

    static void oneBlankBetweenQuotedWords(Case c) {
        prints(c, "\"a    b  c\"", "\"a b c\"");
    }

    static void noBlankInsideTheSignsOfAGroup(Case c) {
        prints(c, "(   a    b   )   c", "(a b) c");
    }

    static void boost1IsLeftOut(Case c) {
        prints(c, "a^1 b^01 \"c\"^1 [d..e]^01 (f)^1", "a b \"c\" [d..e] (f)");
    }

    static void boostsNextTo1ArePrinted(Case c) {
        prints(c, "a^0 b^00 c^2 d^02", "a^0 b^0 c^2 d^2");
    }

    static void boostOfOneFigureHasNo0Ahead(Case c) {
        prints(c, "a^09 (b)^08", "a^9 (b)^8");
    }

    static void boostsOfTwoFigures(Case c) {
        prints(c, "a^10 b^19 c^90 d^99", "a^10 b^19 c^90 d^99");
    }

    static void near0IsLeftOut(Case c) {
        prints(c, "a~0 b~0^2", "a b^2");
    }

    static void nearsNextTo0ArePrinted(Case c) {
        prints(c, "a~1 b~2^3", "a~1 b~2^3");
    }

    static void slack0IsLeftOut(Case c) {
        prints(c, "\"a b\"~0 \"c\"~0^4", "\"a b\" \"c\"^4");
    }

    static void slacksNextTo0ArePrinted(Case c) {
        prints(c, "\"a b\"~1 \"c\"~9^4", "\"a b\"~1 \"c\"~9^4");
    }

    static void eachLeastToldIsPrinted(Case c) {
        prints(c, "(a)@1 (b c)@2 (+d e)@9^2", "(a)@1 (b c)@2 (+d e)@9^2");
    }

    static void leastNotToldIsNotPrinted(Case c) {
        prints(c, "(a) (+b) (-c)", "(a) (+b) (-c)");
    }

    static void marksAndFieldsToldArePrinted(Case c) {
        prints(c, "+a:x -b:y c:z d:(d:w)", "+a:x -b:y c:z d:(d:w)");
    }

    static void signsOfWords(Case c) {
        prints(c, "a?*z ???????? ******** abcdefgh", "a?*z ???????? ******** abcdefgh");
    }

    static void bothKindsOfSpans(Case c) {
        prints(c, "[ab..abcdefgh] {z..a}", "[ab..abcdefgh] {z..a}");
    }

    static void groups5Deep(Case c) {
        prints(c, "+a:( -b:( c:( d:( a:( q )@1 )@2^2 )^3 )@4 )^5 r", "+a:(-b:(c:(d:(a:(q)@1)@2^2)^3)@4)^5 r");
    }

    static void groupsSideBySideAndThoseThatEndTogether(Case c) {
        prints(c, "((a) (b (c))) ((d)^2)@3 e", "((a) (b (c))) ((d)^2)@3 e");
    }

    static void clauses24(Case c) {
        prints(c, "a ".repeat(24), "a ".repeat(24).trim());
    }

    static void bytes240(Case c) {
        String quote = "\"abcdefgh abcdefgh abcdefgh abcdefgh abcdefgh\"~1 ";
        String text = quote.repeat(4) + "abcdefgh~1^10" + " a".repeat(15) + "b";
        c.same("the text's length", text.length(), 240);
        prints(c, text, text);
    }

    static void whatIsPrintedReadsToTheSame(Case c) {
        String text = "+a:ab~1^12 -b:\"aa b\"~3 {ab..cd} [ab..cd]^0 c:(+a* -?b d:(x y)@2)^3";
        prints(c, text, text);
        prints(c, text, text);
    }

    static void theLatestQueryIsPrinted(Case c) {
        c.reads("abc def", 3);
        c.prints("abc def");
        c.reads("x", 2);
        c.prints("x");
        c.lenient("yXz", 2, "1");
        c.prints("yz");
        c.wrongAt("w(", 1);
        c.prints("yz");
    }

    static void printingChangesNoNode(Case c) {
        c.reads("+a:b~1^2 (c)@3", 4);
        c.prints("+a:b~1^2 (c)@3");
        c.node(1, "0 1 2 0 1 1 0");
        c.node(2, "3 0 1 -1 3 1 0");
        c.prints("+a:b~1^2 (c)@3");
    }
}
