/** Promise 9: out. */
public final class Promise09OutTest {
    public static void main(String[] args) {
        Case.runAll(Promise09OutTest.class);
    }

    static void theFirstAndTheLastByte(Case c) {
        c.reads("+ab^12", 2);
        c.same("print()", c.x.print(), 6);
        c.told("out(0)", () -> c.x.out(0), "" + (int) '+');
        c.told("out(5)", () -> c.x.out(5), "" + (int) '2');
    }

    static void eachByteOf240(Case c) {
        String quote = "\"abcdefgh abcdefgh abcdefgh abcdefgh abcdefgh\"~1 ";
        String text = quote.repeat(4) + "abcdefgh~1^10" + " a".repeat(15) + "b";
        c.reads(text, 21);
        c.same("print()", c.x.print(), 240);
        for (int i = 0; i < 240; i++) {
            int place = i;
            c.told("out(" + i + ")", () -> c.x.out(place), "" + (int) text.charAt(i));
        }
        c.told("out(240)", () -> c.x.out(240), Due.OUTSIDE_ROW);
    }

    static void behindTheLastByteThrows(Case c) {
        c.reads("ab", 2);
        c.x.print();
        c.told("out(2)", () -> c.x.out(2), Due.OUTSIDE_ROW);
        c.told("out(239)", () -> c.x.out(239), Due.OUTSIDE_ROW);
        c.told("out(240)", () -> c.x.out(240), Due.OUTSIDE_ROW);
        c.told("out(most)", () -> c.x.out(Integer.MAX_VALUE), Due.OUTSIDE_ROW);
    }

    static void belowTheFirstByteThrows(Case c) {
        c.reads("ab", 2);
        c.x.print();
        c.told("out(-1)", () -> c.x.out(-1), Due.OUTSIDE_ROW);
        c.told("out(least)", () -> c.x.out(Integer.MIN_VALUE), Due.OUTSIDE_ROW);
    }

    static void nothingPrintedYetIsNullPointer(Case c) {
        c.told("out(0)", () -> c.x.out(0), Due.NO_PRINT);
        c.reads("ab", 2);
        c.told("out(0) with a QUERY", () -> c.x.out(0), Due.NO_PRINT);
    }

    static void nothingPrintedYetIsAheadOfTheIndex(Case c) {
        c.told("out(-1)", () -> c.x.out(-1), Due.NO_PRINT);
        c.told("out(240)", () -> c.x.out(240), Due.NO_PRINT);
        c.told("out(least)", () -> c.x.out(Integer.MIN_VALUE), Due.NO_PRINT);
        c.told("out(most)", () -> c.x.out(Integer.MAX_VALUE), Due.NO_PRINT);
    }

    static void aPrintThatWasRefusedPrintsNothing(Case c) {
        c.same("print()", c.x.print(), QueryTexts.STATE);
        c.told("out(0)", () -> c.x.out(0), Due.NO_PRINT);
    }

    static void outStaysUntilTheNextPrint(Case c) {
        c.reads("ab", 2);
        c.x.print();
        c.reads("xyz", 2);
        c.wrongAt("(", 1);
        c.lenient("uvw", 2, "");
        c.told("out(1)", () -> c.x.out(1), "" + (int) 'b');
        c.told("out(2)", () -> c.x.out(2), Due.OUTSIDE_ROW);
    }

    static void aLongerPrintTakesThePlaceOfAShorter(Case c) {
        c.reads("ab", 2);
        c.x.print();
        c.reads("xyz", 2);
        c.x.print();
        c.told("out(0)", () -> c.x.out(0), "" + (int) 'x');
        c.told("out(2)", () -> c.x.out(2), "" + (int) 'z');
    }

    static void aShorterPrintTakesThePlaceOfALonger(Case c) {
        c.reads("xyz", 2);
        c.x.print();
        c.reads("a", 2);
        c.x.print();
        c.told("out(0)", () -> c.x.out(0), "" + (int) 'a');
        c.told("out(1)", () -> c.x.out(1), Due.OUTSIDE_ROW);
        c.told("out(2)", () -> c.x.out(2), Due.OUTSIDE_ROW);
    }
}
