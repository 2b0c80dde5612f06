/** The sentences ahead of the promises that speak of all calls: limits, constants, refusals, 512 calls. */
public final class AllCallsTest {
    private static final int LEAST = Integer.MIN_VALUE;
    private static final int MOST = Integer.MAX_VALUE;
    private static final int[] FAR = {-1, 8, 25, 240, LEAST, MOST};

    public static void main(String[] args) {
        Case.runAll(AllCallsTest.class);
    }

    /** A call whose answer is of no account here. */
    private interface Deed {
        void of(QueryTexts x);
    }

    /** An object with a query, words, something printed, something dropped and something on the tape. */
    private static QueryTexts filled() {
        QueryTexts x = new QueryTexts();
        Due.lenientText(x, "+aX:b~1 (c -\"d e\"~2)@1^2)");
        x.print();
        Due.addWords(x, 0, 0, "b c");
        Due.addWords(x, 1, 0, "b d e");
        Due.addWords(x, 7, 3, "a b c d e f g h i j k l");
        Due.readText(x, "+a:b~1 {c..f}^3");
        Due.feedText(x, "(tape)");
        return x;
    }

    /** Everything that can be asked of such an object; the tape is asked last, as it is empty then. */
    private static String state(QueryTexts x) {
        StringBuilder all = new StringBuilder();
        for (int k = -1; k < 5; k++) {
            int node = k;
            for (int what = 0; what < 7; what++) {
                int asked = what;
                all.append(Due.told(() -> x.node(node, asked))).append(' ');
            }
            for (int document = 0; document < 8; document++) {
                all.append(x.fits(k, document)).append(' ').append(x.worth(k, document)).append(' ');
            }
            all.append(x.rank(k)).append(' ').append(Due.told(() -> x.sign(node, 0, 0))).append(' ');
        }
        all.append(Due.droppedOf(x)).append(' ');
        for (int i = 0; i < 26; i++) {
            int place = i;
            all.append(Due.told(() -> x.out(place))).append(' ');
        }
        all.append(Due.told(() -> Due.printed(x).length())).append(' ');
        for (int document = 0; document < 8; document++) {
            all.append(x.why(document)).append(' ').append(x.clear(document)).append(' ');
        }
        all.append(x.read()).append(' ').append(Due.told(() -> x.node(1, 5)));
        return all.toString();
    }

    /** An object with the call and one without it answer the same behind it. */
    private static void changesNothing(Case c, String name, Deed deed) {
        QueryTexts x = filled();
        deed.of(x);
        c.same("all behind " + name, state(x), state(filled()));
        QueryTexts fresh = new QueryTexts();
        deed.of(fresh);
        c.same("all of a new object behind " + name, state(fresh), state(new QueryTexts()));
    }

    static void theConstants(Case c) {
        c.same("NONE", QueryTexts.NONE, -1);
        c.same("UNKNOWN", QueryTexts.UNKNOWN, -101);
        c.same("OUTSIDE", QueryTexts.OUTSIDE, -102);
        c.same("FULL", QueryTexts.FULL, -103);
        c.same("STATE", QueryTexts.STATE, -104);
    }

    static void theStateOfAFilledObjectIsSeen(Case c) {
        QueryTexts x = filled();
        String before = state(x);
        c.hold("the tape is seen", !before.equals(state(x)));
        c.hold("a new object is another", !before.equals(state(new QueryTexts())));
    }

    static void feedRefusedChangesNothing(Case c) {
        for (int n : new int[] {0, 9, -1, LEAST, MOST}) {
            changesNothing(c, "feed(" + n + ")", x -> c.same("feed", x.feed(n, 'a'), QueryTexts.OUTSIDE));
        }
    }

    static void droppedChangesNothing(Case c) {
        for (int k : FAR) {
            changesNothing(c, "dropped(" + k + ")", x -> c.same("dropped", x.dropped(k), QueryTexts.NONE));
        }
    }

    static void nodeRefusedChangesNothing(Case c) {
        for (int k : FAR) {
            changesNothing(c, "node(" + k + ", 0)", x -> c.told("node", () -> x.node(k, 0), Due.OUTSIDE_ROW));
            changesNothing(c, "node(0, " + k + ")", x -> Due.told(() -> x.node(0, k)));
        }
    }

    static void signRefusedChangesNothing(Case c) {
        for (int k : FAR) {
            changesNothing(c, "sign(" + k + ", 0, 0)", x -> c.told("sign", () -> x.sign(k, 0, 0), Due.OUTSIDE_ROW));
            changesNothing(c, "sign(1, " + k + ", 0)", x -> c.told("sign", () -> x.sign(1, k, 0), Due.OUTSIDE_ROW));
            changesNothing(c, "sign(1, 0, " + k + ")", x -> c.told("sign", () -> x.sign(1, 0, k), Due.OUTSIDE_ROW));
        }
        changesNothing(c, "sign(0, 0, 0)", x -> Due.told(() -> x.sign(0, 0, 0)));
    }

    static void printRefusedChangesNothing(Case c) {
        QueryTexts x = new QueryTexts();
        c.same("print()", x.print(), QueryTexts.STATE);
        c.same("all behind print()", state(x), state(new QueryTexts()));
    }

    static void outRefusedChangesNothing(Case c) {
        for (int i : FAR) {
            changesNothing(c, "out(" + i + ")", x -> Due.told(() -> x.out(i)));
        }
    }

    static void wordRefusedChangesNothing(Case c) {
        for (int n : FAR) {
            changesNothing(c, "word(" + n + ", 0)", x -> c.same("word", x.word(n, 0, 'b'), QueryTexts.UNKNOWN));
            changesNothing(c, "word(0, " + n + ")", x -> c.same("word", x.word(0, n, 'b'), QueryTexts.UNKNOWN));
        }
        for (long w : new long[] {0, 'A', -1L, 'b' << 8, Long.MIN_VALUE, Due.packed("bB")}) {
            changesNothing(c, "word(0, 0, " + w + ")", x -> c.same("word", x.word(0, 0, w), QueryTexts.OUTSIDE));
        }
        QueryTexts full = filled();
        c.same("word(7, 3)", full.word(7, 3, 'b'), QueryTexts.FULL);
        c.same("all behind word(7, 3)", state(full), state(filled()));
    }

    static void clearRefusedChangesNothing(Case c) {
        for (int n : FAR) {
            changesNothing(c, "clear(" + n + ")", x -> c.same("clear", x.clear(n), QueryTexts.UNKNOWN));
        }
    }

    static void askingChangesNothing(Case c) {
        changesNothing(c, "fits", x -> x.fits(0, 0));
        changesNothing(c, "worth", x -> x.worth(2, 7));
        changesNothing(c, "ratio", x -> Due.told(() -> x.ratio(0, 1)));
        changesNothing(c, "ratio by nothing", x -> Due.told(() -> x.ratio(0, 2)));
        changesNothing(c, "why", x -> x.why(3));
        changesNothing(c, "rank", x -> x.rank(1));
        for (int n : FAR) {
            changesNothing(c, "fits(0, " + n + ")", x -> c.same("fits", x.fits(0, n), QueryTexts.UNKNOWN));
            changesNothing(c, "fits(" + n + ", 0)", x -> c.same("fits", x.fits(n, 0), QueryTexts.UNKNOWN));
            changesNothing(c, "worth(0, " + n + ")", x -> c.same("worth", x.worth(0, n), QueryTexts.UNKNOWN));
            changesNothing(c, "worth(" + n + ", 0)", x -> c.same("worth", x.worth(n, 0), QueryTexts.UNKNOWN));
            changesNothing(c, "ratio(0, " + n + ")", x -> c.same("ratio", x.ratio(0, n), QueryTexts.UNKNOWN));
            changesNothing(c, "ratio(" + n + ", 0)", x -> c.same("ratio", x.ratio(n, 0), QueryTexts.UNKNOWN));
            changesNothing(c, "why(" + n + ")", x -> c.same("why", x.why(n), QueryTexts.UNKNOWN));
            changesNothing(c, "rank(" + n + ")", x -> x.rank(n));
        }
    }

    static void aWrongReadEmptiesTheTapeAndChangesNothingElse(Case c) {
        QueryTexts x = filled();
        Due.feedText(x, "(");
        c.same("read()", x.read(), -206);
        Due.feedText(x, "(tape)");
        c.same("all behind a wrong read()", state(x), state(filled()));
    }

    static void the512thCallAnswersAsTheFirstDid(Case c) {
        c.x.feed(4, Due.packed("+a*^"));
        c.x.feed(1, '7');
        c.same("read()", c.x.read(), 2);
        c.same("word", c.x.word(5, 1, Due.packed("ab")), 1);
        for (int call = 5; call < 512; call++) {
            c.same("call " + call, call % 2 == 0 ? c.x.worth(0, 5) : c.x.rank(0), call % 2 == 0 ? 7 : 5);
        }
        c.same("call 512", c.x.print(), 5);
    }

    static void reads512AreAllRight(Case c) {
        for (int round = 0; round < 128; round++) {
            c.x.feed(3, Due.packed(round % 2 == 0 ? "a b" : "(c)"));
            c.same("read()", c.x.read(), 3);
            c.x.feed(2, Due.packed(round % 2 == 0 ? "x(" : "(x"));
            c.same("read()", c.x.read(), round % 2 == 0 ? -201 : -202);
        }
    }
}
