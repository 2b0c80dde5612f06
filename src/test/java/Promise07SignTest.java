/** Promise 7: sign. */
public final class Promise07SignTest {
    public static void main(String[] args) {
        Case.runAll(Promise07SignTest.class);
    }

    /** The signs of a word of a NODE, and none ahead of them or behind. */
    private static void spells(Case c, int k, int j, String word) {
        for (int i = 0; i < word.length(); i++) {
            int place = i;
            c.told("sign(" + k + ", " + j + ", " + i + ")", () -> c.x.sign(k, j, place), "" + (int) word.charAt(i));
        }
        for (int i = word.length(); i <= 9; i++) {
            int place = i;
            c.told("sign behind the last, " + i, () -> c.x.sign(k, j, place), Due.OUTSIDE_ROW);
        }
        c.told("sign ahead of the first", () -> c.x.sign(k, j, -1), Due.OUTSIDE_ROW);
    }

    private static void hasNoWord(Case c, int k, int j) {
        for (int i = -1; i <= 9; i++) {
            int place = i;
            c.told("sign(" + k + ", " + j + ", " + i + ")", () -> c.x.sign(k, j, place), Due.OUTSIDE_ROW);
        }
    }

    static void aWordOf1Sign(Case c) {
        c.reads("z", 2);
        spells(c, 1, 0, "z");
    }

    static void aWordOf8Signs(Case c) {
        c.reads("az?*bcde", 2);
        spells(c, 1, 0, "az?*bcde");
    }

    static void aWordBehindMarkAndField(Case c) {
        c.reads("+a:bc~1^2 d:\"ef g\" -b:{h..i}", 4);
        spells(c, 1, 0, "bc");
        spells(c, 2, 0, "ef");
        spells(c, 2, 1, "g");
        spells(c, 3, 0, "h");
        spells(c, 3, 1, "i");
    }

    static void aWordHasWord0Alone(Case c) {
        c.reads("ab", 2);
        hasNoWord(c, 1, 1);
        hasNoWord(c, 1, 4);
        hasNoWord(c, 1, 5);
        hasNoWord(c, 1, -1);
    }

    static void aQuoteOf1Word(Case c) {
        c.reads("\"ab\"", 2);
        spells(c, 1, 0, "ab");
        hasNoWord(c, 1, 1);
        hasNoWord(c, 1, -1);
    }

    static void aQuoteOf5Words(Case c) {
        c.reads("\"a  bc def ghijklmn z\"~9", 2);
        spells(c, 1, 0, "a");
        spells(c, 1, 1, "bc");
        spells(c, 1, 2, "def");
        spells(c, 1, 3, "ghijklmn");
        spells(c, 1, 4, "z");
        hasNoWord(c, 1, 5);
    }

    static void aSpanHasTwoWords(Case c) {
        c.reads("[abcdefgh..b] {c..ijklmnop}", 3);
        spells(c, 1, 0, "abcdefgh");
        spells(c, 1, 1, "b");
        hasNoWord(c, 1, 2);
        spells(c, 2, 0, "c");
        spells(c, 2, 1, "ijklmnop");
        hasNoWord(c, 2, 2);
    }

    static void signsInAGroup(Case c) {
        c.reads("((ab) c)", 5);
        spells(c, 3, 0, "ab");
        spells(c, 4, 0, "c");
    }

    static void aGroupThrowsClassCast(Case c) {
        c.reads("(a)", 3);
        c.told("sign(0, 0, 0)", () -> c.x.sign(0, 0, 0), Due.NOT_A_WORD);
        c.told("sign(1, 0, 0)", () -> c.x.sign(1, 0, 0), Due.NOT_A_WORD);
    }

    static void aGroupIsAheadOfWordAndSign(Case c) {
        c.reads("(a)", 3);
        c.told("sign(0, -1, 0)", () -> c.x.sign(0, -1, 0), Due.NOT_A_WORD);
        c.told("sign(1, 9, 0)", () -> c.x.sign(1, 9, 0), Due.NOT_A_WORD);
        c.told("sign(1, 0, -1)", () -> c.x.sign(1, 0, -1), Due.NOT_A_WORD);
        c.told("sign(1, least, most)", () -> c.x.sign(1, Integer.MIN_VALUE, Integer.MAX_VALUE), Due.NOT_A_WORD);
    }

    static void aNodeThatIsNoneIsAheadOfTheGroup(Case c) {
        c.told("sign(0, 0, 0) without a QUERY", () -> c.x.sign(0, 0, 0), Due.OUTSIDE_ROW);
        c.reads("(a)", 3);
        c.told("sign(-1, 0, 0)", () -> c.x.sign(-1, 0, 0), Due.OUTSIDE_ROW);
        c.told("sign(3, 0, 0)", () -> c.x.sign(3, 0, 0), Due.OUTSIDE_ROW);
        c.told("sign(25, 0, 0)", () -> c.x.sign(25, 0, 0), Due.OUTSIDE_ROW);
        c.told("sign(least, 0, 0)", () -> c.x.sign(Integer.MIN_VALUE, 0, 0), Due.OUTSIDE_ROW);
        c.told("sign(most, 0, 0)", () -> c.x.sign(Integer.MAX_VALUE, 0, 0), Due.OUTSIDE_ROW);
    }

    static void farWordsAndSignsThrow(Case c) {
        c.reads("abcdefgh \"a b c d e\"", 3);
        int[] far = {-1, 8, 9, 64, Integer.MIN_VALUE, Integer.MAX_VALUE};
        for (int n : far) {
            hasNoWord(c, 1, n);
            hasNoWord(c, 2, n);
            c.told("sign(1, 0, " + n + ")", () -> c.x.sign(1, 0, n), Due.OUTSIDE_ROW);
            c.told("sign(2, 4, " + n + ")", () -> c.x.sign(2, 4, n), Due.OUTSIDE_ROW);
        }
    }

    static void the24thClause(Case c) {
        c.reads("z ".repeat(23) + "\"ab cd\"", 25);
        spells(c, 24, 1, "cd");
        c.told("sign(25, 0, 0)", () -> c.x.sign(25, 0, 0), Due.OUTSIDE_ROW);
    }

    static void wordsAndSignsOfOlderQueriesAreGone(Case c) {
        c.reads("\"abcdefgh abcdefgh abcdefgh\"", 2);
        c.reads("[abcdefgh..abcdefgh]", 2);
        c.reads("a", 2);
        spells(c, 1, 0, "a");
        hasNoWord(c, 1, 1);
        c.reads("b", 2);
        spells(c, 1, 0, "b");
        hasNoWord(c, 1, 1);
        hasNoWord(c, 1, 2);
    }
}
