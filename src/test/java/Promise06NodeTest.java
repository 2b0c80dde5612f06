/** Promise 6: node, with the terms of NODES. */
public final class Promise06NodeTest {
    public static void main(String[] args) {
        Case.runAll(Promise06NodeTest.class);
    }

    static void nodesAreNumberedAsTheyBegin(Case c) {
        c.reads("a (bb (ccc) dddd) eeeee", 8);
        int[] sizes = {3, 1, 3, 2, 1, 3, 4, 5};
        for (int k = 0; k < sizes.length; k++) {
            c.same("node(" + k + ", 5)", c.x.node(k, 5), sizes[k]);
        }
    }

    static void node0IsAllOfTheQuery(Case c) {
        c.reads("+a:b^7", 2);
        c.node(0, "3 0 1 -1 -1 1 -1");
        c.reads("-c:(x y)@2^3", 4);
        c.node(0, "3 0 1 -1 -1 1 -1");
    }

    static void aWord(Case c) {
        c.reads("+b:abc~2^12 -?*", 3);
        c.node(1, "0 1 12 1 2 3 0");
        c.node(2, "0 2 1 -1 0 2 0");
    }

    static void aQuote(Case c) {
        c.reads("-a:\"aa b cccc\"~9^0 +\"a\"", 3);
        c.node(1, "1 2 0 0 9 3 0");
        c.node(2, "1 1 1 -1 0 1 0");
    }

    static void aSpan(Case c) {
        c.reads("d:[abc..d]^99 {a..bcd}", 3);
        c.node(1, "2 0 99 3 0 2 0");
        c.node(2, "2 0 1 -1 1 2 0");
    }

    static void aGroup(Case c) {
        c.reads("-c:(a b c)@9^10 +(d)", 7);
        c.node(1, "3 2 10 2 9 3 0");
        c.node(5, "3 1 1 -1 -1 1 0");
    }

    static void eachCore(Case c) {
        c.reads("a \"a\" [a..a] {a..a} (a)", 7);
        int[] cores = {3, 0, 1, 2, 2, 3, 0};
        for (int k = 0; k < cores.length; k++) {
            c.same("node(" + k + ", 0)", c.x.node(k, 0), cores[k]);
        }
    }

    static void eachMark(Case c) {
        c.reads("a +a -a", 4);
        for (int k = 1; k <= 3; k++) {
            c.same("node(" + k + ", 1)", c.x.node(k, 1), k - 1);
        }
    }

    static void boostNotToldIs1(Case c) {
        c.reads("a \"a\" [a..a] (a)", 6);
        for (int k = 0; k < 6; k++) {
            c.same("node(" + k + ", 2)", c.x.node(k, 2), 1);
        }
    }

    static void boostToldOf0And99(Case c) {
        c.reads("a^0 a^00 a^99 a^09 (a)^0", 7);
        int[] boosts = {1, 0, 0, 99, 9, 0, 1};
        for (int k = 0; k < boosts.length; k++) {
            c.same("node(" + k + ", 2)", c.x.node(k, 2), boosts[k]);
        }
    }

    static void fieldNotToldIsNoneEvenInAGroupThatTellsOne(Case c) {
        c.reads("b:(x (y c:z))", 6);
        int[] fields = {-1, 1, -1, -1, -1, 2};
        for (int k = 0; k < fields.length; k++) {
            c.same("node(" + k + ", 3)", c.x.node(k, 3), fields[k]);
        }
    }

    static void nearAndSlackNotToldAre0(Case c) {
        c.reads("ab \"ab\" a?", 4);
        for (int k = 1; k <= 3; k++) {
            c.same("node(" + k + ", 4)", c.x.node(k, 4), 0);
        }
    }

    static void leastNotToldIsNone(Case c) {
        c.reads("(a) (+a)@1 (a b)@9", 8);
        int[] leasts = {-1, -1, 0, 1, 0, 9};
        for (int k = 0; k < leasts.length; k++) {
            c.same("node(" + k + ", 4)", c.x.node(k, 4), leasts[k]);
        }
    }

    static void sizesOf1And8Signs(Case c) {
        c.reads("a abcdefgh ????****", 4);
        c.same("node(1, 5)", c.x.node(1, 5), 1);
        c.same("node(2, 5)", c.x.node(2, 5), 8);
        c.same("node(3, 5)", c.x.node(3, 5), 8);
    }

    static void aFieldLetterIsNoSignOfItsWord(Case c) {
        c.reads("a:b", 2);
        c.same("node(1, 5)", c.x.node(1, 5), 1);
    }

    static void aGroupsSizeIsThatOfItsOwnClauses(Case c) {
        c.reads("(a (b c d) e) f", 9);
        c.same("node(0, 5)", c.x.node(0, 5), 2);
        c.same("node(1, 5)", c.x.node(1, 5), 3);
        c.same("node(3, 5)", c.x.node(3, 5), 3);
    }

    static void theNodeAroundEach(Case c) {
        c.reads("a (b (c (d (e (f) g) h) i) j) k", 17);
        int[] around = {-1, 0, 0, 2, 2, 4, 4, 6, 6, 8, 8, 10, 8, 6, 4, 2, 0};
        for (int k = 0; k < around.length; k++) {
            c.same("node(" + k + ", 6)", c.x.node(k, 6), around[k]);
        }
    }

    static void the24thClause(Case c) {
        c.reads("z ".repeat(23) + "-d:\"a b\"~3^4", 25);
        c.node(24, "1 2 4 3 3 2 0");
        c.same("node(0, 5)", c.x.node(0, 5), 24);
        c.told("node(25, 0)", () -> c.x.node(25, 0), Due.OUTSIDE_ROW);
    }

    static void aNodeBehindTheLastThrows(Case c) {
        c.reads("a b", 3);
        for (int what = 0; what <= 6; what++) {
            int asked = what;
            c.told("node(3, " + what + ")", () -> c.x.node(3, asked), Due.OUTSIDE_ROW);
        }
        c.told("node(24, 0)", () -> c.x.node(24, 0), Due.OUTSIDE_ROW);
        c.told("node(25, 0)", () -> c.x.node(25, 0), Due.OUTSIDE_ROW);
        c.told("node(26, 0)", () -> c.x.node(26, 0), Due.OUTSIDE_ROW);
        c.told("node(most, 0)", () -> c.x.node(Integer.MAX_VALUE, 0), Due.OUTSIDE_ROW);
    }

    static void aNodeBelow0Throws(Case c) {
        c.reads("a b", 3);
        c.told("node(-1, 0)", () -> c.x.node(-1, 0), Due.OUTSIDE_ROW);
        c.told("node(least, 0)", () -> c.x.node(Integer.MIN_VALUE, 0), Due.OUTSIDE_ROW);
    }

    static void node0WithoutAQueryThrows(Case c) {
        c.told("node(0, 0)", () -> c.x.node(0, 0), Due.OUTSIDE_ROW);
        c.told("node(0, 6)", () -> c.x.node(0, 6), Due.OUTSIDE_ROW);
    }

    static void whatBelow0IsOutside(Case c) {
        c.reads("a", 2);
        c.told("node(0, -1)", () -> c.x.node(0, -1), "-102");
        c.told("node(1, least)", () -> c.x.node(1, Integer.MIN_VALUE), "-102");
    }

    static void whatOf7AndMoreIsOutside(Case c) {
        c.reads("a", 2);
        c.told("node(1, 7)", () -> c.x.node(1, 7), "-102");
        c.told("node(0, 8)", () -> c.x.node(0, 8), "-102");
        c.told("node(1, most)", () -> c.x.node(1, Integer.MAX_VALUE), "-102");
    }

    static void theExceptionIsAheadOfOutside(Case c) {
        c.told("node(0, 7) without a QUERY", () -> c.x.node(0, 7), Due.OUTSIDE_ROW);
        c.reads("a", 2);
        c.told("node(2, 7)", () -> c.x.node(2, 7), Due.OUTSIDE_ROW);
        c.told("node(-1, -1)", () -> c.x.node(-1, -1), Due.OUTSIDE_ROW);
    }

    static void nodesOfALongerQueryAreGone(Case c) {
        c.reads("a b c", 4);
        c.reads("d", 2);
        c.told("node(1, 5)", () -> c.x.node(1, 5), "1");
        c.told("node(2, 5)", () -> c.x.node(2, 5), Due.OUTSIDE_ROW);
        c.told("node(3, 5)", () -> c.x.node(3, 5), Due.OUTSIDE_ROW);
    }

    static void nothingOfAnOlderQueryIsLeftInANode(Case c) {
        c.reads("-d:\"a b c\"~9^9 (x)@9", 4);
        c.reads("{a..b}^5 (y)@8^8", 4);
        c.reads("(a) b", 4);
        c.node(1, "3 0 1 -1 -1 1 0");
        c.node(2, "0 0 1 -1 0 1 1");
        c.node(3, "0 0 1 -1 0 1 0");
        c.reads("\"a\" [a..b]", 3);
        c.node(1, "1 0 1 -1 0 1 0");
        c.node(2, "2 0 1 -1 0 2 0");
    }
}
