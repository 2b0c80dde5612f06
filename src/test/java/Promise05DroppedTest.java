/** Promise 5: dropped. */
public final class Promise05DroppedTest {
    public static void main(String[] args) {
        Case.runAll(Promise05DroppedTest.class);
    }

    static void aheadOfTheFirstLenientIsNone(Case c) {
        c.reads("a", 2);
        c.wrongAt("aX", 1);
        c.same("dropped(0)", c.x.dropped(0), QueryTexts.NONE);
    }

    static void placesAreThoseOnTheTapeAsItCame(Case c) {
        c.lenient("XaXbX", 2, "0 2 4");
    }

    static void theKthIsTheKthInTheOrderOfDropping(Case c) {
        c.lenient("aX (b", 2, "1 4 3");
        c.same("dropped(0)", c.x.dropped(0), 1);
        c.same("dropped(1)", c.x.dropped(1), 4);
        c.same("dropped(2)", c.x.dropped(2), 3);
    }

    static void behindTheLastOneIsNone(Case c) {
        c.lenient("aXY", 2, "1 2");
        c.same("dropped(2)", c.x.dropped(2), QueryTexts.NONE);
        c.same("dropped(3)", c.x.dropped(3), QueryTexts.NONE);
        c.same("dropped(239)", c.x.dropped(239), QueryTexts.NONE);
        c.same("dropped(240)", c.x.dropped(240), QueryTexts.NONE);
        c.same("dropped(most)", c.x.dropped(Integer.MAX_VALUE), QueryTexts.NONE);
    }

    static void belowTheFirstOneIsNone(Case c) {
        c.lenient("aXY", 2, "1 2");
        c.same("dropped(-1)", c.x.dropped(-1), QueryTexts.NONE);
        c.same("dropped(least)", c.x.dropped(Integer.MIN_VALUE), QueryTexts.NONE);
    }

    static void nothingDroppedIsNone(Case c) {
        c.lenient("ab", 2, "");
        c.same("dropped(0)", c.x.dropped(0), QueryTexts.NONE);
    }

    static void theLatestLenientForgetsAnEarlierOne(Case c) {
        c.lenient("aXYZ", 2, "1 2 3");
        c.lenient("aX", 2, "1");
        c.same("dropped(1)", c.x.dropped(1), QueryTexts.NONE);
        c.lenient("a", 2, "");
    }

    static void aLenientWithoutAQueryTellsItsOwn(Case c) {
        c.lenient("aX", 2, "1");
        c.lenient("(X", QueryTexts.NONE, "1 0");
    }

    static void aLenientOfNothingForgetsAnEarlierOne(Case c) {
        c.lenient("aX", 2, "1");
        c.same("lenient()", c.x.lenient(), QueryTexts.NONE);
        c.same("dropped(0)", c.x.dropped(0), QueryTexts.NONE);
    }

    static void readForgetsNothing(Case c) {
        c.lenient("aXbY", 2, "1 3");
        c.reads("c", 2);
        c.wrongAt("c(", 1);
        c.feeds("abc");
        c.same("dropped", Due.droppedOf(c.x), "1 3");
    }

    static void placesMayBeAskedInAnyOrderAndAgain(Case c) {
        c.lenient("XaYbZ", 2, "0 2 4");
        c.same("dropped(2)", c.x.dropped(2), 4);
        c.same("dropped(0)", c.x.dropped(0), 0);
        c.same("dropped(2)", c.x.dropped(2), 4);
    }

    static void the240thIsTold(Case c) {
        c.same("lenient()", Due.lenientText(c.x, "Z".repeat(239) + "("), QueryTexts.NONE);
        c.same("dropped(238)", c.x.dropped(238), 238);
        c.same("dropped(239)", c.x.dropped(239), 239);
        c.same("dropped(240)", c.x.dropped(240), QueryTexts.NONE);
    }
}
