/** Promise 1: a new object. */
public final class NewTest {
    public static void main(String[] args) {
        Due due = new Due();
        QueryTexts x = new QueryTexts();
        due.told("node(0, 0)", () -> x.node(0, 0), Due.OUTSIDE_ROW);
        due.told("node(0, 9)", () -> x.node(0, 9), Due.OUTSIDE_ROW);
        due.told("sign(0, 0, 0)", () -> x.sign(0, 0, 0), Due.OUTSIDE_ROW);
        due.same("print()", x.print(), QueryTexts.STATE);
        due.told("out(0)", () -> x.out(0), Due.NO_PRINT);
        due.told("out(-1)", () -> x.out(-1), Due.NO_PRINT);
        due.same("fits(0, 0)", x.fits(0, 0), QueryTexts.UNKNOWN);
        due.same("worth(0, 0)", x.worth(0, 0), QueryTexts.UNKNOWN);
        due.same("ratio(0, 0)", x.ratio(0, 0), QueryTexts.STATE);
        due.same("ratio(8, 0)", x.ratio(8, 0), QueryTexts.UNKNOWN);
        due.same("why(0)", x.why(0), QueryTexts.STATE);
        due.same("why(8)", x.why(8), QueryTexts.UNKNOWN);
        due.same("rank(0)", x.rank(0), QueryTexts.STATE);
        due.same("rank(-1)", x.rank(-1), QueryTexts.STATE);
        due.same("dropped(0)", x.dropped(0), QueryTexts.NONE);
        for (int document = 0; document < 8; document++) {
            due.same("clear()", x.clear(document), 0);
        }
        due.same("feed(1, 'a')", x.feed(1, 'a'), 1);
        due.same("read()", x.read(), 2);
        for (int document = 0; document < 8; document++) {
            due.same("fits(0, document)", x.fits(0, document), 0);
        }
        due.same("a new object's lenient()", new QueryTexts().lenient(), QueryTexts.NONE);
        due.same("a new object's read()", new QueryTexts().read(), -200);
        due.end();
    }
}
