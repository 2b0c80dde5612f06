/** Promises 10 and 11: word and clear. */
public final class DocumentTest {
    private static final Due DUE = new Due();

    public static void main(String[] args) {
        countsWords();
        refusesWords();
        clears();
        DUE.end();
    }

    private static void countsWords() {
        QueryTexts x = new QueryTexts();
        for (int document = 0; document < 8; document++) {
            for (int field = 0; field < 4; field++) {
                for (int i = 1; i <= 12; i++) {
                    DUE.same("word " + i, x.word(document, field, Due.packed(i % 2 == 0 ? "z" : "abcdefgh")), i);
                }
            }
        }
        DUE.same("a 13th word", x.word(7, 3, 'a'), QueryTexts.FULL);
        DUE.same("a 13th word ahead of another field", x.word(0, 0, 'a'), QueryTexts.FULL);
        DUE.same("clear(0)", x.clear(0), 48);
        DUE.same("a 13th word that is none", x.word(7, 3, 'A'), QueryTexts.OUTSIDE);
        DUE.same("a word of no field", x.word(7, 4, 'A'), QueryTexts.UNKNOWN);
        Due.readText(x, "d:z");
        DUE.same("worth(1, 7)", x.worth(1, 7), 6);
        DUE.same("clear(7)", x.clear(7), 48);
        DUE.same("clear(7) again", x.clear(7), 0);
        DUE.same("worth(1, 7) then", x.worth(1, 7), 0);
        DUE.same("worth(1, 6) then", x.worth(1, 6), 6);
        DUE.same("a word then", x.word(7, 3, 'z'), 1);
        DUE.same("worth(1, 7) at last", x.worth(1, 7), 1);
    }

    private static void refusesWords() {
        QueryTexts x = new QueryTexts();
        int[] stray = {-1, 8, 99, Integer.MIN_VALUE, Integer.MAX_VALUE, 1 << 29, 1 << 30};
        for (int n : stray) {
            DUE.same("word(" + n + ", 0)", x.word(n, 0, 'a'), QueryTexts.UNKNOWN);
            DUE.same("word(0, " + n + ")", x.word(0, n, 'a'), QueryTexts.UNKNOWN);
            DUE.same("word(" + n + ", 0, 0)", x.word(n, 0, 0), QueryTexts.UNKNOWN);
            DUE.same("clear(" + n + ")", x.clear(n), QueryTexts.UNKNOWN);
        }
        DUE.same("word(0, 4)", x.word(0, 4, 'a'), QueryTexts.UNKNOWN);
        long[] outside = {
            0, 1, 'A', '?', '*', ' ', 'a' - 1, 'z' + 1, Due.packed("aB"), Due.packed("Ba"), Due.packed("a\0"),
            Due.packed("a\0b"), Due.packed("abcdefg\0"), Due.packed("\u00e1"), -1L, Long.MIN_VALUE, Long.MAX_VALUE,
            Due.packed("\u00ffbcdefgh"), Due.packed("a\0\0\0\0\0\0\0"),
        };
        for (long w : outside) {
            DUE.same("word(0, 0, " + w + ")", x.word(0, 0, w), QueryTexts.OUTSIDE);
        }
        DUE.same("word(0, 0, 'a')", x.word(0, 0, 'a'), 1);
        DUE.same("word(0, 0, 'z')", x.word(0, 0, 'z'), 2);
    }

    private static void clears() {
        QueryTexts x = new QueryTexts();
        Due.addWords(x, 3, 0, "a b c");
        Due.addWords(x, 3, 3, "d e");
        Due.addWords(x, 4, 1, "f");
        DUE.same("clear(3)", x.clear(3), 5);
        DUE.same("clear(3) again", x.clear(3), 0);
        DUE.same("clear(4)", x.clear(4), 1);
    }
}
