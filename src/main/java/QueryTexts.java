import java.util.Arrays;

/** Texts of queries: read strictly or leniently to a tree, printed, and asked of documents. */
public final class QueryTexts {
    public static final int NONE = -1, UNKNOWN = -101, OUTSIDE = -102, FULL = -103, STATE = -104;

    private static final int TAPE_BYTES = 240;
    private static final int WRONG = -200;
    private static final int CLAUSES = 24;
    private static final int DEEPEST = 5;
    private static final int WORD_SIGNS = 8;
    private static final int QUOTE_WORDS = 5;
    private static final int DOCUMENTS = 8;
    private static final int FIELDS = 4;
    private static final int FIELD_WORDS = 12;

    private static final int WORD = 0;
    private static final int QUOTE = 1;
    private static final int SPAN = 2;
    private static final int GROUP = 3;

    private static final int MAY = 0;
    private static final int MUST = 1;
    private static final int BARRED = 2;

    private final byte[] tape = new byte[TAPE_BYTES];
    private int tapeLength = 0;
    private final int[] keptPlaces = new int[TAPE_BYTES];
    private final int[] droppedPlaces = new int[TAPE_BYTES];
    private int droppedCount = 0;

    /** The QUERY; a tree without nodes as long as there is none. */
    private Tree query = new Tree();
    private final Reader reader = new Reader();
    private final Sheet sheet = new Sheet();
    private final Judge judge = new Judge();
    private final long[] totals = new long[DOCUMENTS];

    public QueryTexts() {
    }

    public int feed(int n, long w) {
        if (n < 1 || n > 8) {
            return OUTSIDE;
        }
        if (tapeLength + n > TAPE_BYTES) {
            return FULL;
        }
        for (int shift = 8 * (n - 1); shift >= 0 && tapeLength < TAPE_BYTES; shift -= 8) {
            tape[tapeLength] = (byte) (w >>> shift);
            tapeLength++;
        }
        return tapeLength;
    }

    public int read() {
        int length = tapeLength;
        tapeLength = 0;
        reader.begin();
        for (int i = 0; i < length && i < TAPE_BYTES; i++) {
            if (!reader.takes(tape[i] & 255)) {
                return WRONG - i;
            }
        }
        return reader.isWhole() ? adoptReading() : WRONG - length;
    }

    public int lenient() {
        int length = tapeLength;
        tapeLength = 0;
        droppedCount = 0;
        int kept = 0;
        int whole = 0;
        reader.begin();
        // What stands ahead of a wrong byte is read anew to the same state: going on from there is the same.
        for (int i = 0; i < length && i < TAPE_BYTES && kept <= i; i++) {
            if (reader.takes(tape[i] & 255)) {
                tape[kept] = tape[i];
                keptPlaces[kept] = i;
                kept++;
                whole = reader.isWhole() ? kept : whole;
            } else {
                drop(i);
            }
        }
        for (int i = kept - 1; i >= whole && i >= 0; i--) {
            drop(keptPlaces[i]);
        }
        if (whole == 0) {
            return NONE;
        }
        reader.begin();
        for (int i = 0; i < whole && i < TAPE_BYTES; i++) {
            reader.takes(tape[i] & 255);
        }
        return adoptReading();
    }

    private void drop(int place) {
        if (droppedCount >= 0 && droppedCount < TAPE_BYTES) {
            droppedPlaces[droppedCount] = place;
            droppedCount++;
        }
    }

    private int adoptReading() {
        query = reader.exchange(query);
        return query.count;
    }

    public int dropped(int k) {
        return k >= 0 && k < droppedCount && k < TAPE_BYTES ? droppedPlaces[k] : NONE;
    }

    public int node(int k, int what) throws ArrayIndexOutOfBoundsException {
        if (!query.has(k)) {
            throw new ArrayIndexOutOfBoundsException("no such node");
        }
        Clause clause = query.at(k);
        switch (what) {
            case 0: return clause.core;
            case 1: return clause.mark;
            case 2: return clause.boost;
            case 3: return clause.field;
            case 4: return clause.detail;
            case 5: return clause.size;
            case 6: return clause.around;
            default: return OUTSIDE;
        }
    }

    public int sign(int k, int j, int i) throws ArrayIndexOutOfBoundsException, ClassCastException {
        if (!query.has(k)) {
            throw new ArrayIndexOutOfBoundsException("no such node");
        }
        Clause clause = query.at(k);
        if (clause.core == GROUP) {
            throw new ClassCastException("a group has no words");
        }
        int found = Letters.signAt(clause.wordAt(j), i);
        if (found == 0) {
            throw new ArrayIndexOutOfBoundsException("no such word or sign");
        }
        return found;
    }

    public int print() {
        if (query.isEmpty()) {
            return STATE;
        }
        return sheet.write(query);
    }

    public int out(int i) throws NullPointerException, ArrayIndexOutOfBoundsException {
        if (!sheet.isWritten()) {
            throw new NullPointerException("nothing was printed yet");
        }
        int found = sheet.byteAt(i);
        if (found == NONE) {
            throw new ArrayIndexOutOfBoundsException("no such byte");
        }
        return found;
    }

    public int word(int document, int field, long w) {
        if (!isDocument(document) || field < 0 || field >= FIELDS) {
            return UNKNOWN;
        }
        if (!Letters.isPlain(w)) {
            return OUTSIDE;
        }
        return judge.shelf.add(document, field, Letters.moveAhead(w));
    }

    public int clear(int document) {
        return isDocument(document) ? judge.shelf.empty(document) : UNKNOWN;
    }

    public int fits(int k, int document) {
        if (!query.has(k) || !isDocument(document)) {
            return UNKNOWN;
        }
        return judge.weigh(query, k, document) == Judge.MISS ? 0 : 1;
    }

    public long worth(int k, int document) {
        if (!query.has(k) || !isDocument(document)) {
            return UNKNOWN;
        }
        return Math.max(0, judge.weigh(query, k, document));
    }

    public long ratio(int document, int other) throws ArithmeticException {
        if (!isDocument(document) || !isDocument(other)) {
            return UNKNOWN;
        }
        if (query.isEmpty()) {
            return STATE;
        }
        long divisor = Math.max(0, judge.weigh(query, 0, other));
        if (divisor == 0) {
            throw new ArithmeticException("the other document is worth nothing");
        }
        return Math.floorDiv(Math.max(0, judge.weigh(query, 0, document)), divisor);
    }

    public int why(int document) {
        if (!isDocument(document)) {
            return UNKNOWN;
        }
        if (query.isEmpty()) {
            return STATE;
        }
        if (judge.weigh(query, 0, document) != Judge.MISS) {
            return NONE;
        }
        int missed = judge.firstFault(query, MUST);
        return missed != 0 ? missed : judge.firstFault(query, BARRED);
    }

    public int rank(int k) {
        if (query.isEmpty()) {
            return STATE;
        }
        for (int document = 0; document < DOCUMENTS; document++) {
            totals[document] = judge.weigh(query, 0, document);
        }
        for (int document = 0; document < DOCUMENTS; document++) {
            if (totals[document] != Judge.MISS && countAhead(document) == k) {
                return document;
            }
        }
        return NONE;
    }

    /** How many documents stand ahead of one that fits; a miss is less than all that fit. */
    private int countAhead(int document) {
        int ahead = 0;
        for (int other = 0; other < DOCUMENTS && isDocument(document); other++) {
            boolean greater = totals[other] > totals[document];
            boolean like = totals[other] == totals[document];
            if (greater || like && other < document) {
                ahead++;
            }
        }
        return ahead;
    }

    private static boolean isDocument(int document) {
        return document >= 0 && document < DOCUMENTS;
    }

    /**
     * A word is a long: its first sign in the highest byte, zeros behind its last one.
     * So two words of letters compare as the longs do.
     */
    private static final class Letters {
        static boolean isLetter(int b) {
            return b >= 'a' && b <= 'z';
        }

        static boolean isSign(int b) {
            return isLetter(b) || b == '?' || b == '*';
        }

        /** The sign at a place; 0 if there is none. */
        static int signAt(long word, int place) {
            return place >= 0 && place < WORD_SIGNS ? (int) (word >>> 56 - 8 * place) & 255 : 0;
        }

        /** Whether w has letters alone from its highest byte that is not 0 downward, and one at least. */
        static boolean isPlain(long w) {
            long rest = w;
            for (int i = 0; i < WORD_SIGNS && rest != 0; i++) {
                if (!isLetter((int) rest & 255)) {
                    return false;
                }
                rest >>>= 8;
            }
            return w != 0;
        }

        /** The bytes of w with the highest one that is not 0 moved to the front. */
        static long moveAhead(long w) {
            long word = w;
            for (int i = 0; i < WORD_SIGNS && word >>> 56 == 0; i++) {
                word <<= 8;
            }
            return word;
        }

        static int lengthOf(long word) {
            int length = 0;
            while (length < WORD_SIGNS && signAt(word, length) != 0) {
                length++;
            }
            return length;
        }
    }

    /** A NODE: a clause, or all of the query. */
    private static final class Clause {
        int core = WORD;
        int mark = MAY;
        int boost = 1;
        int field = NONE;
        /** NEAR, SLACK, 1 for { }, the LEAST told. */
        int detail = 0;
        /** How many signs, words or clauses. */
        int size = 0;
        int around = NONE;
        private final long[] words = new long[QUOTE_WORDS];

        void start(int newMark, int newAround) {
            core = WORD;
            mark = newMark;
            boost = 1;
            field = NONE;
            detail = 0;
            size = 0;
            around = newAround;
            Arrays.fill(words, 0L);
        }

        /** Puts a sign behind the j-th word, which is the last one so far. */
        void addSign(int j, int place, int sign) {
            if (j >= 0 && j < QUOTE_WORDS && place >= 0 && place < WORD_SIGNS) {
                words[j] |= (long) sign << 56 - 8 * place;
                size = core == WORD ? place + 1 : j + 1;
            }
        }

        /** The j-th word; 0 if there is none. */
        long wordAt(int j) {
            return j >= 0 && j < QUOTE_WORDS ? words[j] : 0;
        }

        /** What seemed to be the first letter of a word is the field. */
        void turnToField() {
            field = Letters.signAt(words[0], 0) - 'a';
            words[0] = 0;
            size = 0;
        }
    }

    /** The NODES, numbered as they begin; none at all as long as nothing was begun. */
    private static final class Tree {
        private final Clause[] clauses = new Clause[CLAUSES + 1];
        int count = 0;

        Tree() {
            for (int i = 0; i < clauses.length; i++) {
                clauses[i] = new Clause();
            }
        }

        boolean isEmpty() {
            return count == 0;
        }

        boolean has(int k) {
            return k >= 0 && k < count;
        }

        /** A NODE; a number that names none gives the root, so that no index is ever outside. */
        Clause at(int k) {
            return k >= 0 && k < clauses.length ? clauses[k] : clauses[0];
        }

        void begin() {
            count = 1;
            Clause root = clauses[0];
            root.start(MAY, NONE);
            root.core = GROUP;
            root.detail = NONE;
        }

        boolean hasRoom(int more) {
            return count + more <= clauses.length;
        }

        Clause add(int mark, int around) {
            Clause clause = at(count);
            clause.start(mark, around);
            at(around).size++;
            count++;
            return clause;
        }

        /** The field told by a clause or by the nearest around it; NONE: all of them. */
        int fieldOf(int k) {
            Clause clause = at(k);
            for (int level = 0; level <= DEEPEST && clause.field == NONE && has(clause.around); level++) {
                clause = at(clause.around);
            }
            return clause.field;
        }
    }

    /** Takes a text byte by byte, and refuses each byte that no query goes on with. */
    private static final class Reader {
        private static final int GAP = 0;
        private static final int MARKED = 1;
        private static final int FIELDED = 2;
        private static final int IN_WORD = 3;
        private static final int NEAR_FIGURE = 4;
        private static final int QUOTE_START = 5;
        private static final int IN_QUOTE = 6;
        private static final int QUOTE_GAP = 7;
        private static final int QUOTED = 8;
        private static final int SLACK_FIGURE = 9;
        private static final int SPAN_START = 10;
        private static final int IN_SPAN = 11;
        private static final int SPAN_POINT = 12;
        private static final int GROUPED = 13;
        private static final int LEAST_FIGURE = 14;
        private static final int CORE_DONE = 15;
        private static final int BOOST_FIRST = 16;
        private static final int BOOST_SECOND = 17;
        private static final int CLAUSE_DONE = 18;

        /** Another one than the QUERY's, so that a wrong text leaves the QUERY as it was. */
        private Tree tree = new Tree();
        private int state = GAP;
        private int depth = 0;
        /** The number of the group that is open. */
        private int open = 0;
        private Clause clause = new Clause();
        /** Which word of the clause is read, how many signs it has, and whether all are letters. */
        private int wordNumber = 0;
        private int signs = 0;
        private boolean plain = true;

        void begin() {
            tree.begin();
            state = GAP;
            depth = 0;
            open = 0;
        }

        /** Gives away the tree that was read, and builds the next one in another that is no longer used. */
        Tree exchange(Tree unused) {
            Tree done = tree;
            tree = unused;
            return done;
        }

        /** Whether what was taken is a query. */
        boolean isWhole() {
            if (depth > 0) {
                return false;
            }
            switch (state) {
                case GAP: return tree.at(0).size > 0;
                case IN_WORD:
                case QUOTED:
                case GROUPED:
                case CORE_DONE:
                case BOOST_SECOND:
                case CLAUSE_DONE: return true;
                default: return false;
            }
        }

        /** Whether a query can go on with b; if not, nothing changes. */
        boolean takes(int b) {
            switch (state) {
                case GAP: return takesInGap(b);
                case MARKED:
                case FIELDED: return canBeginCore(b, 0) && beginCore(b);
                case IN_WORD: return takesInWord(b);
                case NEAR_FIGURE: return takesDetail(b, '0', '2');
                case QUOTE_START: return takesLetter(b, IN_QUOTE);
                case IN_QUOTE: return takesInQuote(b);
                case QUOTE_GAP: return takesInQuoteGap(b);
                case QUOTED: return b == '~' ? goTo(SLACK_FIGURE) : takesTail(b);
                case SLACK_FIGURE: return takesDetail(b, '0', '9');
                case SPAN_START: return takesLetter(b, IN_SPAN);
                case IN_SPAN: return takesInSpan(b);
                case SPAN_POINT: return b == '.' && beginWord(1, SPAN_START);
                case GROUPED: return b == '@' ? goTo(LEAST_FIGURE) : takesTail(b);
                case LEAST_FIGURE: return takesDetail(b, '1', '9');
                case CORE_DONE: return takesTail(b);
                case BOOST_FIRST: return isFigure(b) && takeBoost(b - '0', BOOST_SECOND);
                case BOOST_SECOND:
                    return isFigure(b) ? takeBoost(10 * clause.boost + b - '0', CLAUSE_DONE) : takesEnd(b);
                default: return takesEnd(b);
            }
        }

        private boolean goTo(int next) {
            state = next;
            return true;
        }

        private static boolean isFigure(int b) {
            return b >= '0' && b <= '9';
        }

        private boolean takesInGap(int b) {
            if (b == ' ') {
                return true;
            }
            if (b == ')') {
                return tree.at(open).size > 0 && closeGroup();
            }
            boolean marked = b == '+' || b == '-';
            if (!(marked ? tree.hasRoom(1) : canBeginCore(b, 1))) {
                return false;
            }
            clause = tree.add(b == '+' ? MUST : b == '-' ? BARRED : MAY, open);
            return marked ? goTo(MARKED) : beginCore(b);
        }

        /** newOnes: how many clauses begin with b itself. A group needs room for a clause in it, too. */
        private boolean canBeginCore(int b, int newOnes) {
            if (b == '(') {
                return depth < DEEPEST && tree.hasRoom(newOnes + 1);
            }
            return tree.hasRoom(newOnes) && (Letters.isSign(b) || b == '"' || b == '[' || b == '{');
        }

        private boolean beginCore(int b) {
            switch (b) {
                case '(': return openGroup();
                case '"':
                    clause.core = QUOTE;
                    return beginWord(0, QUOTE_START);
                case '[':
                case '{':
                    clause.core = SPAN;
                    clause.detail = b == '{' ? 1 : 0;
                    return beginWord(0, SPAN_START);
                default:
                    return beginWord(0, IN_WORD) && takeSign(b);
            }
        }

        private boolean openGroup() {
            clause.core = GROUP;
            clause.detail = NONE;
            // The clause that was begun last is this one.
            open = tree.count - 1;
            depth++;
            return goTo(GAP);
        }

        private boolean closeGroup() {
            if (depth == 0) {
                return false;
            }
            clause = tree.at(open);
            open = clause.around;
            depth--;
            return goTo(GROUPED);
        }

        private boolean beginWord(int number, int next) {
            wordNumber = number;
            signs = 0;
            plain = true;
            return goTo(next);
        }

        private boolean takeSign(int b) {
            plain = plain && Letters.isLetter(b);
            clause.addSign(wordNumber, signs, b);
            signs++;
            return true;
        }

        private boolean takesLetter(int b, int next) {
            return signs < WORD_SIGNS && Letters.isLetter(b) && takeSign(b) && goTo(next);
        }

        private boolean takesInWord(int b) {
            if (Letters.isSign(b)) {
                return signs < WORD_SIGNS && takeSign(b);
            }
            if (b == ':') {
                return isFieldLetter() && takeField();
            }
            if (b == '~') {
                return plain && goTo(NEAR_FIGURE);
            }
            return takesTail(b);
        }

        private boolean isFieldLetter() {
            int first = Letters.signAt(clause.wordAt(0), 0);
            return signs == 1 && clause.field == NONE && first >= 'a' && first < 'a' + FIELDS;
        }

        private boolean takeField() {
            clause.turnToField();
            return goTo(FIELDED);
        }

        private boolean takesInQuote(int b) {
            if (b == '"') {
                return goTo(QUOTED);
            }
            if (b == ' ') {
                return wordNumber + 1 < QUOTE_WORDS && goTo(QUOTE_GAP);
            }
            return takesLetter(b, IN_QUOTE);
        }

        private boolean takesInQuoteGap(int b) {
            if (b == ' ') {
                return true;
            }
            return Letters.isLetter(b) && beginWord(wordNumber + 1, IN_QUOTE) && takeSign(b);
        }

        private boolean takesInSpan(int b) {
            if (wordNumber == 0 && b == '.') {
                return goTo(SPAN_POINT);
            }
            if (wordNumber == 1 && b == (clause.detail == 1 ? '}' : ']')) {
                return goTo(CORE_DONE);
            }
            return takesLetter(b, IN_SPAN);
        }

        private boolean takesDetail(int b, int least, int most) {
            if (b < least || b > most) {
                return false;
            }
            clause.detail = b - '0';
            return goTo(CORE_DONE);
        }

        private boolean takeBoost(int boost, int next) {
            clause.boost = boost;
            return goTo(next);
        }

        private boolean takesTail(int b) {
            return b == '^' ? goTo(BOOST_FIRST) : takesEnd(b);
        }

        private boolean takesEnd(int b) {
            return b == ' ' ? goTo(GAP) : b == ')' && closeGroup();
        }
    }

    /** OUT: the bytes of what was printed last. */
    private static final class Sheet {
        private final byte[] bytes = new byte[TAPE_BYTES];
        private int length = NONE;

        boolean isWritten() {
            return length != NONE;
        }

        int byteAt(int i) {
            return i >= 0 && i < length && i < bytes.length ? bytes[i] & 255 : NONE;
        }

        int write(Tree tree) {
            length = 0;
            int open = 0;
            for (int k = 1; k < tree.count; k++) {
                Clause clause = tree.at(k);
                open = closeGroups(tree, open, clause.around);
                // The first clause of a group has the number behind the group's own.
                if (clause.around != k - 1) {
                    put(' ');
                }
                putHead(clause);
                if (clause.core == GROUP) {
                    put('(');
                    open = k;
                } else {
                    putCore(clause);
                    putTold('^', clause.boost, 1);
                }
            }
            closeGroups(tree, open, 0);
            return length;
        }

        /** Ends the groups from the one that is open outward to the wanted one, which is open then. */
        private int closeGroups(Tree tree, int open, int wanted) {
            int group = open;
            for (int level = 0; level < DEEPEST && group != wanted; level++) {
                Clause clause = tree.at(group);
                put(')');
                putTold('@', clause.detail, NONE);
                putTold('^', clause.boost, 1);
                group = clause.around;
            }
            return group;
        }

        /** A query printed is never longer than the text it came from, so OUT has room for it. */
        private void put(int b) {
            if (length >= 0 && length < bytes.length) {
                bytes[length] = (byte) b;
                length++;
            }
        }

        private void putHead(Clause clause) {
            if (clause.mark != MAY) {
                put(clause.mark == MUST ? '+' : '-');
            }
            if (clause.field != NONE) {
                put('a' + clause.field);
                put(':');
            }
        }

        private void putCore(Clause clause) {
            if (clause.core == QUOTE) {
                putQuote(clause);
            } else if (clause.core == SPAN) {
                putSpan(clause);
            } else {
                putWord(clause.wordAt(0));
                putTold('~', clause.detail, 0);
            }
        }

        private void putQuote(Clause quote) {
            put('"');
            for (int j = 0; j < quote.size; j++) {
                if (j > 0) {
                    put(' ');
                }
                putWord(quote.wordAt(j));
            }
            put('"');
            putTold('~', quote.detail, 0);
        }

        private void putSpan(Clause span) {
            put(span.detail == 1 ? '{' : '[');
            putWord(span.wordAt(0));
            put('.');
            put('.');
            putWord(span.wordAt(1));
            put(span.detail == 1 ? '}' : ']');
        }

        private void putWord(long word) {
            int signs = Letters.lengthOf(word);
            for (int i = 0; i < signs; i++) {
                put(Letters.signAt(word, i));
            }
        }

        /** A number behind its sign, if it is another one than it is untold. */
        private void putTold(int sign, int number, int untold) {
            if (number == untold) {
                return;
            }
            put(sign);
            if (number > 9) {
                put('0' + number / 10);
            }
            put('0' + number % 10);
        }
    }

    /** The words of the DOCUMENTS. */
    private static final class Shelf {
        private final long[] words = new long[DOCUMENTS * FIELDS * FIELD_WORDS];
        private final int[] counts = new int[DOCUMENTS * FIELDS];

        int countOf(int document, int field) {
            int row = document * FIELDS + field;
            return row >= 0 && row < counts.length ? counts[row] : 0;
        }

        long wordAt(int document, int field, int place) {
            int at = (document * FIELDS + field) * FIELD_WORDS + place;
            return at >= 0 && at < words.length ? words[at] : 0;
        }

        int add(int document, int field, long word) {
            int row = document * FIELDS + field;
            int count = countOf(document, field);
            int at = row * FIELD_WORDS + count;
            if (count >= FIELD_WORDS || row < 0 || row >= counts.length || at < 0 || at >= words.length) {
                return FULL;
            }
            words[at] = word;
            counts[row] = count + 1;
            return counts[row];
        }

        int empty(int document) {
            int had = 0;
            for (int field = 0; field < FIELDS; field++) {
                int row = document * FIELDS + field;
                if (row >= 0 && row < counts.length) {
                    had += counts[row];
                    counts[row] = 0;
                }
            }
            return had;
        }
    }

    /** Tells what clauses are worth for documents. */
    private static final class Judge {
        /** The value of what does not fit; what fits is worth 0 or more. */
        static final long MISS = -1;

        final Shelf shelf = new Shelf();
        private final Likeness likeness = new Likeness();
        private final long[] values = new long[CLAUSES + 1];

        /** The worth of a NODE, or MISS; then values has those of all NODES behind it, too. */
        long weigh(Tree tree, int k, int document) {
            // What stands in a group has a greater number than the group: it is weighed ahead of it.
            for (int c = tree.count - 1; c >= k && c >= 0; c--) {
                Clause clause = tree.at(c);
                if (clause.core == GROUP) {
                    setValue(c, groupValue(tree, c));
                } else {
                    long count = countFits(clause, tree.fieldOf(c), document);
                    setValue(c, count == 0 ? MISS : clause.boost * count);
                }
            }
            return valueAt(k);
        }

        private void setValue(int k, long value) {
            if (k >= 0 && k < values.length) {
                values[k] = value;
            }
        }

        private long valueAt(int k) {
            return k >= 0 && k < values.length ? values[k] : MISS;
        }

        private long groupValue(Tree tree, int k) {
            long sum = 0;
            boolean mustOne = false;
            boolean mayOne = false;
            int fitting = 0;
            for (int c = k + 1; c < tree.count; c++) {
                Clause clause = tree.at(c);
                if (clause.around == k) {
                    long value = valueAt(c);
                    if (isFault(clause.mark, value)) {
                        return MISS;
                    }
                    mustOne = mustOne || clause.mark == MUST;
                    mayOne = mayOne || clause.mark == MAY;
                    fitting += clause.mark == MAY && value != MISS ? 1 : 0;
                    sum += Math.max(0, value);
                }
            }
            Clause group = tree.at(k);
            int untold = mustOne || !mayOne ? 0 : 1;
            int least = group.detail == NONE ? untold : group.detail;
            return fitting < least ? MISS : group.boost * sum;
        }

        private static boolean isFault(int mark, long value) {
            return mark == MUST && value == MISS || mark == BARRED && value != MISS;
        }

        /** Of what weigh() found: the first of the query's own clauses with this mark that is at fault; 0: none. */
        int firstFault(Tree tree, int mark) {
            for (int k = 1; k < tree.count; k++) {
                Clause clause = tree.at(k);
                if (clause.around == 0 && clause.mark == mark && isFault(mark, valueAt(k))) {
                    return k;
                }
            }
            return 0;
        }

        private long countFits(Clause clause, int told, int document) {
            long count = 0;
            for (int field = 0; field < FIELDS; field++) {
                if (told == NONE || told == field) {
                    count += clause.core == QUOTE
                        ? countQuotes(clause, document, field)
                        : countWords(clause, document, field);
                }
            }
            return count;
        }

        private int countWords(Clause clause, int document, int field) {
            int count = 0;
            int places = shelf.countOf(document, field);
            for (int place = 0; place < places; place++) {
                if (likeness.isFor(clause, shelf.wordAt(document, field, place))) {
                    count++;
                }
            }
            return count;
        }

        private int countQuotes(Clause quote, int document, int field) {
            int count = 0;
            int places = shelf.countOf(document, field);
            for (int place = 0; place < places; place++) {
                if (shelf.wordAt(document, field, place) == quote.wordAt(0)
                        && quoteStands(quote, document, field, place)) {
                    count++;
                }
            }
            return count;
        }

        /** Each word at its earliest place behind the one before ends the quote as early as can be. */
        private boolean quoteStands(Clause quote, int document, int field, int first) {
            int last = Math.min(shelf.countOf(document, field) - 1, first + quote.size - 1 + quote.detail);
            int found = 0;
            for (int place = first; place <= last && found < quote.size; place++) {
                if (shelf.wordAt(document, field, place) == quote.wordAt(found)) {
                    found++;
                }
            }
            return found == quote.size;
        }
    }

    /** Whether a word fits a WORD or a SPAN. */
    private static final class Likeness {
        private final int[] row = new int[WORD_SIGNS + 1];

        boolean isFor(Clause clause, long word) {
            if (clause.core == SPAN) {
                return isWithin(clause, word);
            }
            return clause.detail > 0
                ? changes(clause.wordAt(0), word) <= clause.detail
                : hasSigns(clause.wordAt(0), word);
        }

        private static boolean isWithin(Clause span, long word) {
            long from = span.wordAt(0);
            long to = span.wordAt(1);
            return span.detail == 1 ? from < word && word < to : from <= word && word <= to;
        }

        /** How many changes at least make one word from the other. */
        private int changes(long from, long to) {
            int rows = Letters.lengthOf(from);
            int columns = Letters.lengthOf(to);
            for (int j = 0; j <= columns && j < row.length; j++) {
                row[j] = j;
            }
            for (int i = 1; i <= rows; i++) {
                int corner = row[0];
                row[0] = i;
                for (int j = 1; j <= columns && j < row.length; j++) {
                    int other = Letters.signAt(from, i - 1) == Letters.signAt(to, j - 1) ? 0 : 1;
                    int least = Math.min(corner + other, Math.min(row[j], row[j - 1]) + 1);
                    corner = row[j];
                    row[j] = least;
                }
            }
            return columns < row.length ? row[columns] : row.length;
        }

        /** Bit i of reached: the signs so far can stand for the first i letters of the word. */
        private static boolean hasSigns(long signs, long word) {
            int length = Letters.lengthOf(word);
            int all = (1 << length + 1) - 1;
            int count = Letters.lengthOf(signs);
            int reached = 1;
            for (int p = 0; p < count; p++) {
                int sign = Letters.signAt(signs, p);
                if (sign == '*') {
                    // All bits from the lowest one of reached upward.
                    reached = (reached | -reached) & all;
                } else {
                    reached = (reached & placesOf(sign, word, length)) << 1;
                }
            }
            return (reached >> length & 1) == 1;
        }

        private static int placesOf(int sign, long word, int length) {
            int places = 0;
            for (int i = 0; i < length; i++) {
                if (sign == '?' || sign == Letters.signAt(word, i)) {
                    places |= 1 << i;
                }
            }
            return places;
        }
    }
}
