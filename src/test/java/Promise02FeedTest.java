/** Promise 2: feed. */
public final class Promise02FeedTest {
    public static void main(String[] args) {
        Case.runAll(Promise02FeedTest.class);
    }

    /** Fills the tape with blanks to a length that is told. */
    private static void fill(Case c, int length) {
        c.feeds(" ".repeat(length));
    }

    static void nOf1TakesTheLowestByteAlone(Case c) {
        c.same("feed(1, ..)", c.x.feed(1, Due.packed("wxyz")), 1);
        c.reads("", 2);
        c.prints("z");
    }

    static void eachNTakesItsLowestBytesTheHighestFirst(Case c) {
        String text = "stuvwxyz";
        for (int n = 1; n <= 8; n++) {
            c.same("feed(" + n + ", ..)", c.x.feed(n, Due.packed(text)), n);
            c.reads("", 2);
            c.prints(text.substring(8 - n));
        }
    }

    static void laterBytesComeBehindEarlierOnes(Case c) {
        c.same("feed(2, ..)", c.x.feed(2, Due.packed("ab")), 2);
        c.same("feed(3, ..)", c.x.feed(3, Due.packed("cde")), 5);
        c.same("feed(1, ..)", c.x.feed(1, Due.packed("f")), 6);
        c.reads("", 2);
        c.prints("abcdef");
    }

    static void bytesThatAreZeroAreTakenToo(Case c) {
        c.same("feed(3, 'a')", c.x.feed(3, 'a'), 3);
        c.same("read()", c.x.read(), -200);
        c.same("feed(2, a and 0)", c.x.feed(2, 'a' << 8), 2);
        c.same("read()", c.x.read(), -201);
    }

    static void bytesAbove127AreTakenToo(Case c) {
        c.same("feed(8, -1)", c.x.feed(8, -1L), 8);
        c.same("feed(8, least)", c.x.feed(8, Long.MIN_VALUE), 16);
        c.same("read()", c.x.read(), -200);
        c.same("feed(2, a and 225)", c.x.feed(2, 0x61E1), 2);
        c.same("read() of a and 225", c.x.read(), -201);
    }

    static void nOf0IsOutside(Case c) {
        c.same("feed(0, 'a')", c.x.feed(0, 'a'), QueryTexts.OUTSIDE);
    }

    static void nBelow0IsOutside(Case c) {
        c.same("feed(-1, 'a')", c.x.feed(-1, 'a'), QueryTexts.OUTSIDE);
        c.same("feed(-8, 'a')", c.x.feed(-8, 'a'), QueryTexts.OUTSIDE);
        c.same("feed(least, 'a')", c.x.feed(Integer.MIN_VALUE, 'a'), QueryTexts.OUTSIDE);
    }

    static void nOf9IsOutside(Case c) {
        c.same("feed(9, 'a')", c.x.feed(9, 'a'), QueryTexts.OUTSIDE);
    }

    static void nFarAbove8IsOutside(Case c) {
        c.same("feed(256, 'a')", c.x.feed(256, 'a'), QueryTexts.OUTSIDE);
        c.same("feed(most, 'a')", c.x.feed(Integer.MAX_VALUE, 'a'), QueryTexts.OUTSIDE);
    }

    static void whatIsOutsideChangesNothing(Case c) {
        c.feeds("ab");
        c.x.feed(0, 'x');
        c.x.feed(9, 'x');
        c.x.feed(-1, 'x');
        c.same("feed(1, 'c')", c.x.feed(1, 'c'), 3);
        c.reads("", 2);
        c.prints("abc");
    }

    static void theTapeTakes240By8(Case c) {
        for (int i = 1; i <= 30; i++) {
            c.same("feed(8, ..)", c.x.feed(8, Due.packed("       z")), 8 * i);
        }
        c.same("feed(1, ..)", c.x.feed(1, 'z'), QueryTexts.FULL);
    }

    static void theTapeTakes240By1(Case c) {
        for (int i = 1; i <= 240; i++) {
            c.same("feed(1, ..)", c.x.feed(1, ' '), i);
        }
        c.same("feed(1, ..)", c.x.feed(1, ' '), QueryTexts.FULL);
    }

    static void at239OneByteFits(Case c) {
        fill(c, 239);
        c.same("feed(1, 'a')", c.x.feed(1, 'a'), 240);
        c.reads("", 2);
        c.prints("a");
    }

    static void at239TwoBytesAreFull(Case c) {
        fill(c, 239);
        c.same("feed(2, ..)", c.x.feed(2, Due.packed("ab")), QueryTexts.FULL);
    }

    static void at232EightBytesFit(Case c) {
        fill(c, 232);
        c.same("feed(8, ..)", c.x.feed(8, Due.packed("abcdefgh")), 240);
        c.reads("", 2);
        c.prints("abcdefgh");
    }

    static void at233EightBytesAreFullAndSevenFit(Case c) {
        fill(c, 233);
        c.same("feed(8, ..)", c.x.feed(8, Due.packed("abcdefgh")), QueryTexts.FULL);
        c.same("feed(7, ..)", c.x.feed(7, Due.packed("abcdefgh")), 240);
        c.reads("", 2);
        c.prints("bcdefgh");
    }

    static void at240EachNIsFull(Case c) {
        fill(c, 240);
        for (int n = 1; n <= 8; n++) {
            c.same("feed(" + n + ", ..)", c.x.feed(n, 'a'), QueryTexts.FULL);
        }
    }

    static void fullTakesNoneOfTheBytes(Case c) {
        fill(c, 237);
        c.same("feed(1, 'z')", c.x.feed(1, 'z'), 238);
        c.same("feed(3, ..)", c.x.feed(3, Due.packed("abc")), QueryTexts.FULL);
        c.reads("", 2);
        c.prints("z");
    }

    static void outsideIsAheadOfFull(Case c) {
        fill(c, 240);
        c.same("feed(0, ..)", c.x.feed(0, 'a'), QueryTexts.OUTSIDE);
        c.same("feed(9, ..)", c.x.feed(9, 'a'), QueryTexts.OUTSIDE);
        c.same("feed(-1, ..)", c.x.feed(-1, 'a'), QueryTexts.OUTSIDE);
    }

    static void aFullTapeIsEmptyBehindRead(Case c) {
        fill(c, 240);
        c.same("read()", c.x.read(), -440);
        c.same("feed(8, ..)", c.x.feed(8, Due.packed("abcdefgh")), 8);
    }

    static void aFullTapeIsEmptyBehindLenient(Case c) {
        fill(c, 240);
        c.same("lenient()", c.x.lenient(), QueryTexts.NONE);
        c.same("feed(8, ..)", c.x.feed(8, Due.packed("abcdefgh")), 8);
    }

    static void otherCallsLeaveTheTape(Case c) {
        c.reads("a", 2);
        c.feeds("b");
        c.prints("a");
        c.x.dropped(0);
        c.x.node(0, 0);
        c.x.sign(1, 0, 0);
        c.x.word(0, 0, 'a');
        c.x.fits(0, 0);
        c.x.worth(0, 0);
        c.x.ratio(0, 0);
        c.x.why(0);
        c.x.rank(0);
        c.x.clear(0);
        c.same("feed(1, 'c')", c.x.feed(1, 'c'), 2);
        c.reads("", 2);
        c.prints("bc");
    }
}
