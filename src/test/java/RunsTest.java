import java.util.Random;

/** All promises: runs of 512 calls in any order, wrong ones too, against ModelObject. */
public final class RunsTest {
    private static final int RUNS = 150;
    private static final int CALLS = 512;
    private static final Due DUE = new Due();
    private static final Random RANDOM = new Random(6);
    private static final int[] STRAY = {Integer.MIN_VALUE, -1000, -2, -1, 8, 9, 25, 240, 1000, Integer.MAX_VALUE};
    private static final String[] PIECES = {
        "a", "b ", "ab", "c~1", "+", "-", "a:", "d:", "\"a b\"", "\"", "~2", "^3", "^0", "[a..b]", "{a..c}", "(", ")", "@2",
        " ", "*", "?b", " a ", "(a b)", "+a ", "-b ", "(-c a)", "X", "ab a", "\"a\"~1",
    };

    private QueryTexts x = new QueryTexts();
    private ModelObject model = new ModelObject();
    private int run;

    public static void main(String[] args) {
        RunsTest test = new RunsTest();
        for (int run = 0; run < RUNS; run++) {
            test.x = new QueryTexts();
            test.model = new ModelObject();
            test.run = run;
            for (int call = 0; call < CALLS; call++) {
                test.callOne();
            }
        }
        DUE.end();
    }

    /** A number below the bound, now and then one that is far from it. */
    private static int number(int bound) {
        return RANDOM.nextInt(12) == 0 ? STRAY[RANDOM.nextInt(STRAY.length)] : RANDOM.nextInt(bound);
    }

    private static long someWord() {
        switch (RANDOM.nextInt(12)) {
            case 0: return RANDOM.nextLong();
            case 1: return RANDOM.nextInt(200);
            case 2: return 0;
            default: return Due.packed("abcaabbca".substring(RANDOM.nextInt(4), 4 + RANDOM.nextInt(5)));
        }
    }

    private void check(String call, Due.Call got, String want) {
        DUE.same("run " + run + ": " + call, Due.told(got), want);
    }

    private void callOne() {
        int kind = RANDOM.nextInt(20);
        if (kind < 6) {
            feedPiece();
        } else if (kind < 8) {
            becomeQuery();
        } else if (kind < 11) {
            changeDocument();
        } else if (kind < 15) {
            askTree();
        } else {
            askDocuments();
        }
    }

    private void feedPiece() {
        String piece = PIECES[RANDOM.nextInt(PIECES.length)];
        boolean stray = RANDOM.nextInt(30) == 0;
        int n = stray ? number(12) : piece.length();
        long w = stray ? RANDOM.nextLong() : Due.packed(piece);
        check("feed(" + n + ", " + w + ")", () -> x.feed(n, w), model.feed(n, w));
    }

    private void becomeQuery() {
        if (RANDOM.nextInt(3) > 0) {
            check("lenient()", x::lenient, model.lenient());
        } else {
            check("read()", x::read, model.read());
        }
    }

    private void changeDocument() {
        int document = number(8);
        int field = number(4);
        long w = someWord();
        if (RANDOM.nextInt(25) == 0) {
            check("clear(" + document + ")", () -> x.clear(document), model.clear(document));
        } else {
            check("word(" + document + ", " + field + ", " + w + ")", () -> x.word(document, field, w),
                model.word(document, field, w));
        }
    }

    private void askTree() {
        int k = number(7);
        int j = number(3);
        int i = number(10);
        switch (RANDOM.nextInt(5)) {
            case 0 -> check("dropped(" + k + ")", () -> x.dropped(k), model.dropped(k));
            case 1 -> check("node(" + k + ", " + i + ")", () -> x.node(k, i), model.node(k, i));
            case 2 -> check("sign(" + k + ", " + j + ", " + i + ")", () -> x.sign(k, j, i), model.sign(k, j, i));
            case 3 -> check("print()", x::print, model.print());
            default -> check("out(" + i + ")", () -> x.out(i), model.out(i));
        }
    }

    private void askDocuments() {
        int k = number(7);
        int document = number(8);
        int other = number(8);
        switch (RANDOM.nextInt(5)) {
            case 0 -> check("fits(" + k + ", " + document + ")", () -> x.fits(k, document), model.fits(k, document));
            case 1 -> check("worth(" + k + ", " + document + ")", () -> x.worth(k, document), model.worth(k, document));
            case 2 -> check("ratio(" + document + ", " + other + ")", () -> x.ratio(document, other),
                model.ratio(document, other));
            case 3 -> check("why(" + document + ")", () -> x.why(document), model.why(document));
            default -> check("rank(" + k + ")", () -> x.rank(k), model.rank(k));
        }
    }
}
