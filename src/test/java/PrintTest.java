/** Promises 8 and 9: print and out. */
public final class PrintTest {
    private static final Due DUE = new Due();

    public static void main(String[] args) {
        prints("a", "a");
        prints("  a   b  ", "a b");
        prints("a^1", "a");
        prints("a^01", "a");
        prints("a^00", "a^0");
        prints("a^09", "a^9");
        prints("a^10", "a^10");
        prints("a^99", "a^99");
        prints("ab~0^1", "ab");
        prints("ab~1^02", "ab~1^2");
        prints("\"a   b\"~0", "\"a b\"");
        prints("\"a b  c d e\"~9^3", "\"a b c d e\"~9^3");
        prints("-c:[a..b]", "-c:[a..b]");
        prints("+{abcdefgh..b}^0", "+{abcdefgh..b}^0");
        prints("(  a  )", "(a)");
        prints("( a )@1^1", "(a)@1");
        prints("(a b)@9^20 c", "(a b)@9^20 c");
        prints("+a:( b:(c ) -(d (e)@2^3 )^4 ) *f?", "+a:(b:(c) -(d (e)@2^3)^4) *f?");
        prints("(((((a)^2)@3)^4)@5)^6 ((b)) c", "(((((a)^2)@3)^4)@5)^6 ((b)) c");
        prints("a:a b:b c:c d:d", "a:a b:b c:c d:d");
        printsTheLongest();
        keepsWhatWasPrinted();
        DUE.end();
    }

    private static void prints(String text, String want) {
        QueryTexts x = new QueryTexts();
        Due.readText(x, text);
        DUE.same("print() of '" + text + "'", x.print(), want.length());
        DUE.same("print of '" + text + "'", Due.printed(x), want);
        DUE.told("out(-1)", () -> x.out(-1), Due.OUTSIDE_ROW);
        DUE.told("out behind the last", () -> x.out(want.length()), Due.OUTSIDE_ROW);
        DUE.told("out(least)", () -> x.out(Integer.MIN_VALUE), Due.OUTSIDE_ROW);
        DUE.told("out(most)", () -> x.out(Integer.MAX_VALUE), Due.OUTSIDE_ROW);
    }

    private static void printsTheLongest() {
        String quote = "-d:\"abcdefgh abcdefgh abcdefgh abcdefgh abcdefgh\"~9^99";
        String text = (quote + " " + quote + " " + quote + " " + quote + " ").substring(0, 4 * quote.length() + 4)
            + "abcdefgh";
        String rest = " x".repeat((240 - text.length()) / 2);
        String whole = text + rest + (240 - text.length() - rest.length() == 1 ? "y" : "");
        DUE.same("the longest text", whole.length(), 240);
        prints(whole, whole);
    }

    private static void keepsWhatWasPrinted() {
        QueryTexts x = new QueryTexts();
        DUE.same("print() without a query", x.print(), QueryTexts.STATE);
        DUE.told("out(0) behind it", () -> x.out(0), Due.NO_PRINT);
        Due.readText(x, "ab");
        DUE.told("out(0) behind read()", () -> x.out(0), Due.NO_PRINT);
        DUE.told("out(7) behind read()", () -> x.out(7), Due.NO_PRINT);
        x.print();
        Due.readText(x, "xyz");
        DUE.told("out(1) of the older query", () -> x.out(1), "98");
        DUE.told("out(2) of the older query", () -> x.out(2), Due.OUTSIDE_ROW);
        x.print();
        DUE.told("out(2) of the newer query", () -> x.out(2), "122");
        Due.readText(x, "q");
        x.print();
        DUE.told("out(1) of a shorter query", () -> x.out(1), Due.OUTSIDE_ROW);
    }
}
