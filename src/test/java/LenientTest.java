/** Promises 4 and 5: lenient and dropped. */
public final class LenientTest {
    private static final Due DUE = new Due();

    public static void main(String[] args) {
        reads("a b", 3, "", "a b");
        reads("a~3", 2, "2 1", "a");
        reads("a?~1", 2, "2 3", "a?");
        reads("ABC(a)DEF", 3, "0 1 2 6 7 8", "(a)");
        reads("a^1x2y3", 2, "3 5 6", "a^12");
        reads("a (b c", 2, "5 4 3 2", "a");
        reads("a +", 2, "2", "a");
        reads("a  ", 2, "", "a");
        reads("a:", 2, "1", "a");
        reads("+b:(", 2, "3 2", "+b");
        reads("a b:(", 3, "4 3", "a b");
        reads("a \"b c", 2, "5 4 3 2", "a");
        reads("abcdefghijk", 2, "8 9 10", "abcdefgh");
        reads("((((((a))))))", 7, "5 12", "(((((a)))))");
        reads("z ".repeat(24) + "y +x", 25, "48 50 51", ("z ".repeat(24)).trim());
        reads("z ".repeat(23) + "(x)", 25, "46 48", "z ".repeat(23) + "x");
        readsNothing("", "");
        readsNothing("  ", "1 0");
        readsNothing("\"a ", "2 1 0");
        readsNothing("()", "1 0");
        readsNothing("(A(b", "1 3 2 0");
        readsNothing("+", "0");
        keepsAndForgets();
        dropsAll240();
        DUE.end();
    }

    private static void reads(String text, int nodes, String dropped, String printed) {
        QueryTexts x = new QueryTexts();
        DUE.same("lenient() of '" + text + "'", Due.lenientText(x, text), nodes);
        DUE.same("dropped of '" + text + "'", Due.droppedOf(x), dropped);
        DUE.same("print of '" + text + "'", Due.printed(x), printed);
        DUE.same("dropped(-1)", x.dropped(-1), QueryTexts.NONE);
        DUE.same("dropped(240)", x.dropped(240), QueryTexts.NONE);
        DUE.same("dropped(least)", x.dropped(Integer.MIN_VALUE), QueryTexts.NONE);
        DUE.same("dropped(most)", x.dropped(Integer.MAX_VALUE), QueryTexts.NONE);
    }

    private static void readsNothing(String text, String dropped) {
        QueryTexts x = new QueryTexts();
        DUE.same("lenient() of '" + text + "'", Due.lenientText(x, text), QueryTexts.NONE);
        DUE.same("dropped of '" + text + "'", Due.droppedOf(x), dropped);
        DUE.same("print() behind '" + text + "'", x.print(), QueryTexts.STATE);
        DUE.same("feed behind '" + text + "'", x.feed(1, 'a'), 1);
    }

    private static void keepsAndForgets() {
        QueryTexts x = new QueryTexts();
        Due.lenientText(x, "xAy");
        DUE.same("dropped", Due.droppedOf(x), "1");
        DUE.same("a lenient() without a query", Due.lenientText(x, "((["), QueryTexts.NONE);
        DUE.same("dropped then", Due.droppedOf(x), "2 1 0");
        DUE.same("the query stays", Due.printed(x), "xy");
        DUE.same("read()", Due.readText(x, "q"), 2);
        DUE.same("read() forgets nothing dropped", Due.droppedOf(x), "2 1 0");
        DUE.same("read() wrong", Due.readText(x, "("), -201);
        DUE.same("nor a wrong one", Due.droppedOf(x), "2 1 0");
        DUE.same("lenient() of nothing", x.lenient(), QueryTexts.NONE);
        DUE.same("dropped of nothing", Due.droppedOf(x), "");
        DUE.same("the query still", Due.printed(x), "q");
    }

    private static void dropsAll240() {
        QueryTexts x = new QueryTexts();
        DUE.same("lenient() of 240", Due.lenientText(x, "Z".repeat(240)), QueryTexts.NONE);
        for (int k = 0; k < 240; k++) {
            DUE.same("dropped(" + k + ")", x.dropped(k), k);
        }
        DUE.same("dropped(240)", x.dropped(240), QueryTexts.NONE);
        DUE.same("lenient() of 240", Due.lenientText(x, "\"a" + " ".repeat(238)), QueryTexts.NONE);
        DUE.same("dropped(0)", x.dropped(0), 239);
        DUE.same("dropped(239)", x.dropped(239), 0);
    }
}
