/** Promises 6 and 7: node and sign. */
public final class NodeTest {
    private static final Due DUE = new Due();
    private static final int[] STRAY = {-1, Integer.MIN_VALUE, Integer.MAX_VALUE};

    public static void main(String[] args) {
        tellsNodes();
        tellsWhatWasNotTold();
        refusesNodes();
        tellsSigns();
        refusesSigns();
        DUE.end();
    }

    private static void nodes(String text, String... rows) {
        QueryTexts x = new QueryTexts();
        DUE.same("read() of " + text, Due.readText(x, text), rows.length);
        for (int k = 0; k < rows.length; k++) {
            DUE.same("node " + k + " of " + text, Due.nodeOf(x, k), rows[k]);
        }
    }

    private static void tellsNodes() {
        nodes("+a:ab~2^12 -b:\"aa  b c\"~9 {ab..cd}^7 d:(x -(?* +y)@9^0 z)",
            "3 0 1 -1 -1 4 -1", "0 1 12 0 2 2 0", "1 2 1 1 9 3 0", "2 0 7 -1 1 2 0", "3 0 1 3 -1 3 0",
            "0 0 1 -1 0 1 4", "3 2 0 -1 9 2 4", "0 0 1 -1 0 2 6", "0 1 1 -1 0 1 6", "0 0 1 -1 0 1 4");
        nodes("a^05 b^00 c^50 abcdefgh", "3 0 1 -1 -1 4 -1", "0 0 5 -1 0 1 0", "0 0 0 -1 0 1 0", "0 0 50 -1 0 1 0",
            "0 0 1 -1 0 8 0");
        nodes("c:(((((q)))))", "3 0 1 -1 -1 1 -1", "3 0 1 2 -1 1 0", "3 0 1 -1 -1 1 1", "3 0 1 -1 -1 1 2",
            "3 0 1 -1 -1 1 3", "3 0 1 -1 -1 1 4", "0 0 1 -1 0 1 5");
    }

    private static void tellsWhatWasNotTold() {
        nodes("a \"a\" [a..b] (a)", "3 0 1 -1 -1 4 -1", "0 0 1 -1 0 1 0", "1 0 1 -1 0 1 0", "2 0 1 -1 0 2 0",
            "3 0 1 -1 -1 1 0", "0 0 1 -1 0 1 4");
        nodes("(b)@1 a", "3 0 1 -1 -1 2 -1", "3 0 1 -1 1 1 0", "0 0 1 -1 0 1 1", "0 0 1 -1 0 1 0");
    }

    private static void refusesNodes() {
        QueryTexts x = new QueryTexts();
        Due.readText(x, "a b");
        for (int stray : STRAY) {
            DUE.told("node(" + stray + ", 0)", () -> x.node(stray, 0), Due.OUTSIDE_ROW);
            DUE.told("node(" + stray + ", 7)", () -> x.node(stray, 7), Due.OUTSIDE_ROW);
            DUE.told("node(0, " + stray + ")", () -> x.node(0, stray), "-102");
        }
        DUE.told("node(3, 0)", () -> x.node(3, 0), Due.OUTSIDE_ROW);
        DUE.told("node(25, 0)", () -> x.node(25, 0), Due.OUTSIDE_ROW);
        DUE.told("node(2, 7)", () -> x.node(2, 7), "-102");
        DUE.told("node(2, 6)", () -> x.node(2, 6), "0");
    }

    private static void tellsSigns() {
        QueryTexts x = new QueryTexts();
        Due.readText(x, "d:?b*defgh \"ab c defghijk\" {xy..z} a:b");
        String[][] words = {{}, {"?b*defgh"}, {"ab", "c", "defghijk"}, {"xy", "z"}, {"b"}};
        for (int k = 1; k < words.length; k++) {
            for (int j = 0; j < words[k].length; j++) {
                checkWord(x, k, j, words[k][j]);
            }
            int node = k;
            int behind = words[k].length;
            DUE.told("sign behind the words", () -> x.sign(node, behind, 0), Due.OUTSIDE_ROW);
        }
    }

    private static void checkWord(QueryTexts x, int k, int j, String word) {
        for (int i = 0; i < word.length(); i++) {
            DUE.same("sign(" + k + ", " + j + ", " + i + ")", x.sign(k, j, i), word.charAt(i));
        }
        DUE.told("sign behind the word", () -> x.sign(k, j, word.length()), Due.OUTSIDE_ROW);
    }

    private static void refusesSigns() {
        QueryTexts x = new QueryTexts();
        Due.readText(x, "abcdefgh (\"a b c d e\")");
        for (int stray : STRAY) {
            DUE.told("sign(" + stray + ", 0, 0)", () -> x.sign(stray, 0, 0), Due.OUTSIDE_ROW);
            DUE.told("sign(1, " + stray + ", 0)", () -> x.sign(1, stray, 0), Due.OUTSIDE_ROW);
            DUE.told("sign(1, 0, " + stray + ")", () -> x.sign(1, 0, stray), Due.OUTSIDE_ROW);
            DUE.told("sign(2, " + stray + ", 0)", () -> x.sign(2, stray, 0), Due.NOT_A_WORD);
            DUE.told("sign(0, 0, " + stray + ")", () -> x.sign(0, 0, stray), Due.NOT_A_WORD);
        }
        DUE.told("sign(1, 1, 0)", () -> x.sign(1, 1, 0), Due.OUTSIDE_ROW);
        DUE.told("sign(1, 0, 8)", () -> x.sign(1, 0, 8), Due.OUTSIDE_ROW);
        DUE.told("sign(3, 5, 0)", () -> x.sign(3, 5, 0), Due.OUTSIDE_ROW);
        DUE.told("sign(3, 4, 0)", () -> x.sign(3, 4, 0), "101");
        DUE.told("sign(4, 0, 0)", () -> x.sign(4, 0, 0), Due.OUTSIDE_ROW);
        // Older rows are used again by a later reading, not only by the next one.
        Due.readText(x, "b (c)");
        Due.readText(x, "b (c)");
        DUE.told("sign of an older, longer word", () -> x.sign(1, 0, 1), Due.OUTSIDE_ROW);
        DUE.told("sign of an older quote's word", () -> x.sign(3, 1, 0), Due.OUTSIDE_ROW);
    }
}
