/** Promise 10: word. */
public final class Promise10WordTest {
    private static final int[] NO_DOCUMENTS = {-1, 8, 9, 32, Integer.MIN_VALUE, Integer.MAX_VALUE, 1 << 28, 1 << 30};
    private static final int[] NO_FIELDS = {-1, 4, 5, 8, Integer.MIN_VALUE, Integer.MAX_VALUE, 1 << 28, 1 << 30};

    public static void main(String[] args) {
        Case.runAll(Promise10WordTest.class);
    }

    private static void isOutside(Case c, String... texts) {
        for (String text : texts) {
            c.same("word of '" + text + "'", c.x.word(0, 0, Due.packed(text)), QueryTexts.OUTSIDE);
        }
    }

    static void theFirstWordAnswers1TheNext2(Case c) {
        c.same("word(0, 0, 'a')", c.x.word(0, 0, 'a'), 1);
        c.same("word(0, 0, 'a')", c.x.word(0, 0, 'a'), 2);
    }

    static void wordsOf1To8Letters(Case c) {
        String letters = "stuvwxyz";
        for (int length = 1; length <= 8; length++) {
            String word = letters.substring(0, length);
            c.same("word of " + word, c.x.word(3, 2, Due.packed(word)), length);
            c.reads(word, 2);
            c.same("worth(1, 3) of " + word, c.x.worth(1, 3), 1);
        }
    }

    static void theFirstAndTheLastLetter(Case c) {
        c.same("word of a", c.x.word(0, 0, 'a'), 1);
        c.same("word of z", c.x.word(0, 0, 'z'), 2);
        c.same("word of zzzzzzzz", c.x.word(0, 0, Due.packed("zzzzzzzz")), 3);
    }

    static void eachFieldOfEachDocumentCountsItsOwn(Case c) {
        for (int round = 1; round <= 2; round++) {
            for (int document = 0; document < 8; document++) {
                for (int field = 0; field < 4; field++) {
                    c.same("word(" + document + ", " + field + ")", c.x.word(document, field, 'a'), round);
                }
            }
        }
    }

    static void aWordComesIntoItsFieldAlone(Case c) {
        c.reads("a:w b:w c:w d:w", 5);
        for (int document = 0; document < 8; document++) {
            c.words(document, document % 4, "w");
            for (int field = 0; field < 4; field++) {
                c.same("fits", c.x.fits(1 + field, document), field == document % 4 ? 1 : 0);
            }
        }
    }

    static void aWordComesBehindTheOthers(Case c) {
        c.words(0, 1, "a b c");
        c.reads("\"a b c\" \"b a\" \"c b\"", 4);
        c.same("fits(1, 0)", c.x.fits(1, 0), 1);
        c.same("fits(2, 0)", c.x.fits(2, 0), 0);
        c.same("fits(3, 0)", c.x.fits(3, 0), 0);
    }

    static void the12thWordIsTaken(Case c) {
        c.words(7, 3, "a b c d e f g h i j k");
        c.same("the 12th", c.x.word(7, 3, 'z'), 12);
        c.reads("z", 2);
        c.same("worth(1, 7)", c.x.worth(1, 7), 1);
    }

    static void the13thWordIsFull(Case c) {
        c.words(0, 0, "a b c d e f g h i j k l");
        c.same("the 13th", c.x.word(0, 0, 'z'), QueryTexts.FULL);
        c.same("the 13th once more", c.x.word(0, 0, 'z'), QueryTexts.FULL);
    }

    static void fullChangesNothing(Case c) {
        c.words(0, 0, "a b c d e f g h i j k l");
        c.same("the 13th", c.x.word(0, 0, 'z'), QueryTexts.FULL);
        c.reads("z *", 3);
        c.same("fits(1, 0)", c.x.fits(1, 0), 0);
        c.same("worth(2, 0)", c.x.worth(2, 0), 12);
        c.same("clear(0)", c.x.clear(0), 12);
    }

    static void aFullFieldLeavesRoomInTheOthers(Case c) {
        c.words(2, 1, "a b c d e f g h i j k l");
        c.same("the field ahead", c.x.word(2, 0, 'z'), 1);
        c.same("the field behind", c.x.word(2, 2, 'z'), 1);
        c.same("another document", c.x.word(3, 1, 'z'), 1);
    }

    static void documentsThatAreNoneAreUnknown(Case c) {
        for (int document : NO_DOCUMENTS) {
            c.same("word(" + document + ", 0, 'a')", c.x.word(document, 0, 'a'), QueryTexts.UNKNOWN);
        }
    }

    static void fieldsThatAreNoneAreUnknown(Case c) {
        for (int field : NO_FIELDS) {
            c.same("word(0, " + field + ", 'a')", c.x.word(0, field, 'a'), QueryTexts.UNKNOWN);
            c.same("word(7, " + field + ", 'a')", c.x.word(7, field, 'a'), QueryTexts.UNKNOWN);
        }
    }

    static void unknownChangesNothing(Case c) {
        c.x.word(-1, 3, 'w');
        c.x.word(8, 0, 'w');
        c.x.word(0, 4, 'w');
        c.x.word(1, -1, 'w');
        for (int document = 0; document < 8; document++) {
            c.same("clear(" + document + ")", c.x.clear(document), 0);
        }
    }

    static void w0IsOutside(Case c) {
        c.same("word(0, 0, 0)", c.x.word(0, 0, 0), QueryTexts.OUTSIDE);
    }

    static void bytesNextToTheLettersAreOutside(Case c) {
        isOutside(c, "`", "{", "a`", "`a", "z{", "{z", "abc{efgh", "`bcdefgh", "abcdefg{");
    }

    static void otherBytesAreOutside(Case c) {
        isOutside(c, "A", "Z", "?", "*", " ", "1", "a b", "a?", "*a", "\1", "\u007f", "\u0080", "\u00e1", "\u00ff", "a\u00e1");
    }

    static void aByte0BehindTheHighestIsOutside(Case c) {
        isOutside(c, "a\0", "a\0b", "ab\0cdefg", "abcdefg\0", "a\0\0\0\0\0\0\0");
    }

    static void allBitsAndTheHighestBitAreOutside(Case c) {
        c.same("word(0, 0, -1)", c.x.word(0, 0, -1L), QueryTexts.OUTSIDE);
        c.same("word(0, 0, least)", c.x.word(0, 0, Long.MIN_VALUE), QueryTexts.OUTSIDE);
        c.same("word(0, 0, most)", c.x.word(0, 0, Long.MAX_VALUE), QueryTexts.OUTSIDE);
        c.same("word(0, 0, a with the highest bit)", c.x.word(0, 0, Long.MIN_VALUE | 'a'), QueryTexts.OUTSIDE);
    }

    static void outsideChangesNothing(Case c) {
        c.words(0, 0, "ab");
        isOutside(c, "aB", "", "b\0");
        c.same("the next word", c.x.word(0, 0, 'c'), 2);
        c.reads("\"ab c\"", 2);
        c.same("fits(1, 0)", c.x.fits(1, 0), 1);
    }

    static void unknownIsAheadOfOutside(Case c) {
        c.same("word(8, 0, 0)", c.x.word(8, 0, 0), QueryTexts.UNKNOWN);
        c.same("word(0, 4, 'A')", c.x.word(0, 4, 'A'), QueryTexts.UNKNOWN);
        c.same("word(-1, -1, -1)", c.x.word(-1, -1, -1), QueryTexts.UNKNOWN);
    }

    static void outsideIsAheadOfFull(Case c) {
        c.words(0, 0, "a b c d e f g h i j k l");
        c.same("word(0, 0, 'A')", c.x.word(0, 0, 'A'), QueryTexts.OUTSIDE);
        c.same("word(0, 0, 0)", c.x.word(0, 0, 0), QueryTexts.OUTSIDE);
    }

    static void unknownIsAheadOfFull(Case c) {
        for (int field = 0; field < 4; field++) {
            c.words(7, field, "a b c d e f g h i j k l");
        }
        c.same("word(7, 4, 'a')", c.x.word(7, 4, 'a'), QueryTexts.UNKNOWN);
        c.same("word(8, 3, 'a')", c.x.word(8, 3, 'a'), QueryTexts.UNKNOWN);
    }

    static void aWordNeedsNoQueryAndOutlivesIt(Case c) {
        c.words(0, 0, "ab");
        c.reads("ab", 2);
        c.reads("a?", 2);
        c.wrongAt("(", 1);
        c.same("worth(1, 0)", c.x.worth(1, 0), 1);
    }
}
