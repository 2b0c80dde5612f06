/** Counts the answers that are not as due, and ends a test. */
final class Due {
    private int wrong = 0;
    /** Told ahead of each wrong answer. */
    private String about = "";

    /** Names the case that the next answers are for. */
    void begin(String name) {
        about = name + ": ";
    }

    private void complain(String text) {
        wrong++;
        System.out.println(about + text);
    }

    void same(String call, long got, long want) {
        if (got != want) {
            complain(call + " answered " + got + ", due is " + want);
        }
    }

    void same(String call, String got, String want) {
        if (!got.equals(want)) {
            complain(call + " answered '" + got + "', due is '" + want + "'");
        }
    }

    void hold(String claim, boolean holds) {
        if (!holds) {
            complain("does not hold: " + claim);
        }
    }

    /** A call whose answer or exception is looked at. */
    interface Call {
        long answer();
    }

    /** The answer, or the exception's class behind throws. */
    static String told(Call call) {
        try {
            return Long.toString(call.answer());
        } catch (RuntimeException e) {
            return "throws." + e.getClass().getSimpleName() + (isOfTheMachine(e) ? " by the machine" : "");
        }
    }

    void told(String name, Call call, String want) {
        same(name, told(call), want);
    }

    /** The machine's own exceptions are told by their texts; the class writes others. */
    private static boolean isOfTheMachine(RuntimeException e) {
        String text = e.getMessage();
        return text == null || text.startsWith("Index ") || text.startsWith("/ by") || text.startsWith("Cannot ")
            || text.startsWith("class ") || text.contains("out of bounds");
    }

    void end() {
        System.out.println(wrong == 0 ? "all answers are as due" : wrong + " answers are not as due");
        if (wrong != 0) {
            System.exit(1);
        }
    }

    static final String OUTSIDE_ROW = "throws.ArrayIndexOutOfBoundsException";
    static final String NOT_A_WORD = "throws.ClassCastException";
    static final String NO_PRINT = "throws.NullPointerException";
    static final String BY_NOTHING = "throws.ArithmeticException";

    /** Up to eight characters as a long, the last one lowest. */
    static long packed(String text) {
        long w = 0;
        for (int i = 0; i < text.length(); i++) {
            w = w << 8 | text.charAt(i) & 255;
        }
        return w;
    }

    /** Feeds a text in pieces: what the last feed answered. */
    static int feedText(QueryTexts x, String text) {
        int answer = 0;
        for (int i = 0; i < text.length(); i += 8) {
            String piece = text.substring(i, Math.min(i + 8, text.length()));
            answer = x.feed(piece.length(), packed(piece));
        }
        return answer;
    }

    static int readText(QueryTexts x, String text) {
        feedText(x, text);
        return x.read();
    }

    static int lenientText(QueryTexts x, String text) {
        feedText(x, text);
        return x.lenient();
    }

    static String droppedOf(QueryTexts x) {
        StringBuilder places = new StringBuilder();
        for (int k = 0; x.dropped(k) != QueryTexts.NONE; k++) {
            places.append(k == 0 ? "" : " ").append(x.dropped(k));
        }
        return places.toString();
    }

    static String printed(QueryTexts x) {
        int length = x.print();
        StringBuilder text = new StringBuilder();
        for (int i = 0; i < length; i++) {
            text.append((char) x.out(i));
        }
        return text.toString();
    }

    /** The seven answers of node() for one NODE. */
    static String nodeOf(QueryTexts x, int k) {
        StringBuilder row = new StringBuilder();
        for (int what = 0; what < 7; what++) {
            row.append(what == 0 ? "" : " ").append(x.node(k, what));
        }
        return row.toString();
    }

    static int addWords(QueryTexts x, int document, int field, String words) {
        int answer = 0;
        for (String word : words.split(" ")) {
            answer = x.word(document, field, packed(word));
        }
        return answer;
    }
}
