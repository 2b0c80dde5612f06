/** Promise 3: read, with the terms of a QUERY, a CLAUSE, a CORE and the WRONG place. */
public final class Promise03ReadTest {
    private static final String LETTERS = "abcdefghijklmnopqrstuvwxyz";
    private static final String SIGNS = LETTERS + "?*";
    private static final String FIGURES = "0123456789";
    private static final String FLAT_CORES = SIGNS + "\"[{";
    private static final String CORES = FLAT_CORES + "(";
    private static final String CLAUSES = CORES + "+- ";

    public static void main(String[] args) {
        Case.runAll(Promise03ReadTest.class);
    }

    private static String many(int clauses) {
        return "z ".repeat(clauses);
    }

    /** Reads each text to a number of NODES. */
    private static void allRead(Case c, int nodes, String... texts) {
        for (String text : texts) {
            c.reads(text, nodes);
        }
    }

    /** Of all bytes, those and no others go on behind a beginning. */
    private static void goesOn(Case c, String beginning, String bytes) {
        Case each = c.anew();
        for (int b = 0; b < 256; b++) {
            if (b % 64 == 0) {
                each = c.anew();
            }
            String text = beginning + (char) b;
            int answer = Due.readText(each.x, text);
            boolean wrongThere = answer == -200 - beginning.length();
            c.hold("'" + beginning + "' and byte " + b + ": " + answer, wrongThere == (bytes.indexOf(b) < 0));
        }
    }

    // A QUERY.

    static void nothingIsWrongAt0(Case c) {
        c.wrongAt("", 0);
    }

    static void blanksWithoutAClauseAreWrongAtTheirLength(Case c) {
        c.wrongAt(" ", 1);
        c.wrongAt("     ", 5);
        c.wrongAt(" ".repeat(240), 240);
    }

    static void blanksBehindOlderQueriesAreWrongToo(Case c) {
        c.reads("a b", 3);
        c.reads("(c)", 3);
        c.wrongAt("  ", 2);
        c.reads("d", 2);
        c.wrongAt(" ", 1);
        c.wrongAt("", 0);
        c.lenient(" ", QueryTexts.NONE, "0");
        c.prints("d");
    }

    static void oneClauseIsAQuery(Case c) {
        c.reads("a", 2);
    }

    static void blanksAheadAndBehindAreReadAsWished(Case c) {
        allRead(c, 2, " a", "a ", " a ", "   a   ", " ".repeat(239) + "a", "a" + " ".repeat(239));
    }

    static void oneBlankOrMoreBetweenClauses(Case c) {
        allRead(c, 3, "a b", "a  b", "a" + " ".repeat(238) + "b");
    }

    static void noBlankBetweenClausesIsWrong(Case c) {
        c.wrongAt("a+b", 1);
        c.wrongAt("a-b", 1);
        c.wrongAt("a\"b\"", 1);
        c.wrongAt("a[b..c]", 1);
        c.wrongAt("a{b..c}", 1);
        c.wrongAt("a(b)", 1);
        c.wrongAt("a~1b", 3);
        c.wrongAt("a^1b", 3);
        c.wrongAt("a^12b", 4);
        c.wrongAt("\"a\"b", 3);
        c.wrongAt("\"a\"\"b\"", 3);
        c.wrongAt("\"a\"~1b", 5);
        c.wrongAt("[a..b]c", 6);
        c.wrongAt("{a..b}{", 6);
        c.wrongAt("(a)b", 3);
        c.wrongAt("(a)(b)", 3);
        c.wrongAt("(a)@1b", 5);
    }

    static void noOtherByteIsABlank(Case c) {
        for (char b : new char[] {0, 9, 10, 13, 31, 33, 160, 255}) {
            c.wrongAt("a" + b + "b", 1);
            c.wrongAt(b + "b", 0);
        }
    }

    static void theBytesThatAQueryBeginsWith(Case c) {
        goesOn(c, "", CLAUSES);
        goesOn(c, " ", CLAUSES);
        goesOn(c, "a ", CLAUSES);
    }

    // A CLAUSE: mark, FIELD, BOOST.

    static void aMarkAloneEndsTooEarly(Case c) {
        c.wrongAt("+", 1);
        c.wrongAt("-", 1);
        c.wrongAt("a +", 3);
    }

    static void twoMarksAreWrong(Case c) {
        c.wrongAt("++a", 1);
        c.wrongAt("+-a", 1);
        c.wrongAt("-+a", 1);
        c.wrongAt("--a", 1);
    }

    static void aBlankBehindAMarkIsWrong(Case c) {
        c.wrongAt("+ a", 1);
        c.wrongAt("- a", 1);
    }

    static void theBytesBehindAMark(Case c) {
        goesOn(c, "+", CORES);
        goesOn(c, "-", CORES);
    }

    static void eachFieldLetterIsRead(Case c) {
        for (int field = 0; field < 4; field++) {
            c.reads("abcd".charAt(field) + ":x", 2);
            c.same("node(1, 3)", c.x.node(1, 3), field);
        }
    }

    static void aLetterBehindDIsNoField(Case c) {
        for (int i = 4; i < 26; i++) {
            c.wrongAt(LETTERS.charAt(i) + ":x", 1);
        }
    }

    static void aSignIsNoField(Case c) {
        c.wrongAt("?:x", 1);
        c.wrongAt("*:x", 1);
    }

    static void twoLettersAreNoField(Case c) {
        c.wrongAt("ab:c", 2);
        c.wrongAt("aa:c", 2);
    }

    static void colonWithoutALetterIsWrong(Case c) {
        c.wrongAt(":x", 0);
        c.wrongAt("+:x", 1);
    }

    static void aFieldAloneEndsTooEarly(Case c) {
        c.wrongAt("a:", 2);
        c.wrongAt("+d:", 3);
    }

    static void aSecondFieldIsWrong(Case c) {
        c.wrongAt("a:b:c", 3);
        c.wrongAt("a:a:a", 3);
    }

    static void aMarkBehindTheFieldIsWrong(Case c) {
        c.wrongAt("a:+b", 2);
        c.wrongAt("a:-b", 2);
    }

    static void aBlankBehindTheFieldIsWrong(Case c) {
        c.wrongAt("a: b", 2);
    }

    static void aFieldLetterWithoutColonBeginsAWord(Case c) {
        c.reads("a b~1 c^2 d? ab (a)", 8);
        for (int k = 1; k <= 5; k++) {
            c.same("node(" + k + ", 0)", c.x.node(k, 0), 0);
            c.same("node(" + k + ", 3)", c.x.node(k, 3), QueryTexts.NONE);
        }
        c.same("node(4, 5)", c.x.node(4, 5), 2);
    }

    static void theBytesBehindAField(Case c) {
        goesOn(c, "a:", CORES);
        goesOn(c, "-d:", CORES);
    }

    static void theBytesBehindALetterThatMayBeAField(Case c) {
        goesOn(c, "a", SIGNS + ":~^ ");
        goesOn(c, "+d", SIGNS + ":~^ ");
        goesOn(c, "x b", SIGNS + ":~^ ");
        goesOn(c, "e", SIGNS + "~^ ");
        goesOn(c, "c:d", SIGNS + "~^ ");
        goesOn(c, "ab", SIGNS + "~^ ");
    }

    static void aFieldAndABoostAtEachCore(Case c) {
        allRead(c, 2, "a:b^2", "b:\"b\"^2", "c:[b..c]^2", "d:{b..c}^2");
        c.reads("a:(b)^2", 3);
    }

    static void aBoostWithoutAFigureIsWrong(Case c) {
        c.wrongAt("a^", 2);
        c.wrongAt("a^ b", 2);
        c.wrongAt("a^b", 2);
        c.wrongAt("a^-1", 2);
    }

    static void eachBoostOfOneFigureIsRead(Case c) {
        for (int boost = 0; boost <= 9; boost++) {
            c.reads("a^" + boost, 2);
            c.same("node(1, 2)", c.x.node(1, 2), boost);
        }
    }

    static void eachBoostOfTwoFiguresIsRead(Case c) {
        for (int boost = 0; boost <= 99; boost++) {
            c.reads("a^" + boost / 10 + boost % 10, 2);
            c.same("node(1, 2)", c.x.node(1, 2), boost);
        }
    }

    static void aThirdFigureOfABoostIsWrong(Case c) {
        c.wrongAt("a^100", 4);
        c.wrongAt("a^000", 4);
    }

    static void aSecondBoostIsWrong(Case c) {
        c.wrongAt("a^1^1", 3);
        c.wrongAt("a^11^1", 4);
    }

    static void aBoostAheadOfWhatBelongsToTheCoreIsWrong(Case c) {
        c.wrongAt("a^1~1", 3);
        c.wrongAt("\"a\"^1~1", 5);
        c.wrongAt("(a)^1@1", 5);
    }

    static void theBytesOfABoost(Case c) {
        goesOn(c, "a^", FIGURES);
        goesOn(c, "a^1", FIGURES + " ");
        goesOn(c, "a^12", " ");
    }

    // A WORD.

    static void aWordOf8SignsIsRead(Case c) {
        allRead(c, 2, "abcdefgh", "????????", "********", "a?*b?*c?", "a:abcdefgh", "+zzzzzzzz");
    }

    static void the9thSignIsWrong(Case c) {
        c.wrongAt("abcdefghi", 8);
        c.wrongAt("????????*", 8);
        c.wrongAt("a:abcdefghi", 10);
        c.wrongAt("x abcdefghi", 10);
    }

    static void bytesNextToTheLettersAreWrong(Case c) {
        c.wrongAt("`", 0);
        c.wrongAt("a`", 1);
        c.wrongAt("a{", 1);
        c.wrongAt("}", 0);
        c.wrongAt("A", 0);
        c.wrongAt("aZ", 1);
        c.wrongAt("\u00e1", 0);
    }

    static void nearFigures0To2AreRead(Case c) {
        for (int near = 0; near <= 2; near++) {
            c.reads("ab~" + near, 2);
            c.same("node(1, 4)", c.x.node(1, 4), near);
        }
    }

    static void near3IsWrong(Case c) {
        c.wrongAt("a~3", 2);
        c.wrongAt("a~9", 2);
    }

    static void nearWithoutAFigureIsWrong(Case c) {
        c.wrongAt("a~", 2);
        c.wrongAt("a~ b", 2);
        c.wrongAt("a~^2", 2);
    }

    static void aSecondFigureOfNearIsWrong(Case c) {
        c.wrongAt("a~10", 3);
        c.wrongAt("a~1~1", 3);
    }

    static void nearBehindSignsThatAreNoLettersIsWrong(Case c) {
        c.wrongAt("a?~1", 2);
        c.wrongAt("?a~1", 2);
        c.wrongAt("*~1", 1);
        c.wrongAt("ab*cdefg~1", 8);
    }

    static void nearOfAnEarlierWordWithSignsDoesNotBarALaterOne(Case c) {
        c.reads("a? b~1", 3);
        c.reads("a:b~2", 2);
    }

    static void theBytesOfAWord(Case c) {
        goesOn(c, "?", SIGNS + "^ ");
        goesOn(c, "a*", SIGNS + "^ ");
        goesOn(c, "abcdefg", SIGNS + "~^ ");
        goesOn(c, "abcdefgh", "~^ ");
        goesOn(c, "abcdefg?", "^ ");
        goesOn(c, "a~", "012");
        goesOn(c, "a~2", "^ ");
    }

    // A QUOTE.

    static void aQuoteWithoutAWordIsWrong(Case c) {
        c.wrongAt("\"\"", 1);
        c.wrongAt("\" \"", 1);
    }

    static void aQuoteOf1To5WordsIsRead(Case c) {
        for (int words = 1; words <= 5; words++) {
            c.reads("\"" + "a ".repeat(words).trim() + "\"", 2);
            c.same("node(1, 5)", c.x.node(1, 5), words);
        }
    }

    static void aBlankBehindTheFifthWordIsWrong(Case c) {
        c.wrongAt("\"a b c d e f\"", 10);
        c.wrongAt("\"a b c d e \"", 10);
    }

    static void quotedWordsOf8LettersAreRead(Case c) {
        c.reads("\"abcdefgh ijklmnop qrstuvwx yzabcdef abcdefgh\"", 2);
    }

    static void the9thLetterOfAQuotedWordIsWrong(Case c) {
        c.wrongAt("\"abcdefghi\"", 9);
        c.wrongAt("\"a abcdefghi\"", 11);
        c.wrongAt("\"a b c d abcdefghi\"", 17);
    }

    static void manyBlanksBetweenQuotedWords(Case c) {
        c.reads("\"a" + " ".repeat(235) + "bc\"", 2);
        c.same("node(1, 5)", c.x.node(1, 5), 2);
    }

    static void aBlankBehindTheOpeningSignIsWrong(Case c) {
        c.wrongAt("\" a\"", 1);
    }

    static void aBlankAheadOfTheClosingSignIsWrong(Case c) {
        c.wrongAt("\"a \"", 3);
        c.wrongAt("\"a b  \"", 6);
    }

    static void signsThatAreNoLettersInAQuoteAreWrong(Case c) {
        c.wrongAt("\"?\"", 1);
        c.wrongAt("\"a*\"", 2);
        c.wrongAt("\"a ?\"", 3);
        c.wrongAt("\"a:b\"", 2);
    }

    static void aQuoteThatIsNotClosedEndsTooEarly(Case c) {
        c.wrongAt("\"", 1);
        c.wrongAt("\"a", 2);
        c.wrongAt("\"a ", 3);
        c.wrongAt("\"a b", 4);
    }

    static void slackFigures0To9AreRead(Case c) {
        for (int slack = 0; slack <= 9; slack++) {
            c.reads("\"a b\"~" + slack, 2);
            c.same("node(1, 4)", c.x.node(1, 4), slack);
        }
    }

    static void slackWithoutAFigureIsWrong(Case c) {
        c.wrongAt("\"a\"~", 4);
        c.wrongAt("\"a\"~ ", 4);
        c.wrongAt("\"a\" ~1", 4);
    }

    static void aSecondFigureOfSlackIsWrong(Case c) {
        c.wrongAt("\"a\"~10", 5);
    }

    static void theBytesOfAQuote(Case c) {
        goesOn(c, "\"", LETTERS);
        goesOn(c, "\"a", LETTERS + " \"");
        goesOn(c, "\"a ", LETTERS + " ");
        goesOn(c, "\"a  ", LETTERS + " ");
        goesOn(c, "\"abcdefgh", " \"");
        goesOn(c, "\"a b c d e", LETTERS + "\"");
        goesOn(c, "\"a b c d abcdefgh", "\"");
        goesOn(c, "\"a\"", "~^ ");
        goesOn(c, "\"a\"~", FIGURES);
        goesOn(c, "\"a\"~9", "^ ");
    }

    // A SPAN.

    static void spansOfWordsOf1And8LettersAreRead(Case c) {
        allRead(c, 2, "[a..b]", "{a..b}", "[abcdefgh..b]", "[a..abcdefgh]", "{abcdefgh..abcdefgh}", "[b..a]", "{a..a}");
    }

    static void the9thLetterOfASpansWordIsWrong(Case c) {
        c.wrongAt("[abcdefghi..b]", 9);
        c.wrongAt("{a..abcdefghi}", 12);
    }

    static void aSpanWithoutAWordIsWrong(Case c) {
        c.wrongAt("[..b]", 1);
        c.wrongAt("[a..]", 4);
        c.wrongAt("{}", 1);
    }

    static void onePointOrThreeAreWrong(Case c) {
        c.wrongAt("[a.b]", 3);
        c.wrongAt("[a...b]", 4);
        c.wrongAt("[ab]", 3);
    }

    static void aSecondRowOfPointsIsWrong(Case c) {
        c.wrongAt("[a..b..c]", 5);
    }

    static void theOtherClosingSignIsWrong(Case c) {
        c.wrongAt("[a..b}", 5);
        c.wrongAt("{a..b]", 5);
    }

    static void closingAheadOfTheSecondWordIsWrong(Case c) {
        c.wrongAt("[a]", 2);
        c.wrongAt("{a}", 2);
    }

    static void blanksAndSignsInASpanAreWrong(Case c) {
        c.wrongAt("[ a..b]", 1);
        c.wrongAt("[a ..b]", 2);
        c.wrongAt("[a.. b]", 4);
        c.wrongAt("[a..b ]", 5);
        c.wrongAt("[?..b]", 1);
        c.wrongAt("[a..*]", 4);
    }

    static void nearBehindASpanIsWrong(Case c) {
        c.wrongAt("[a..b]~1", 6);
        c.wrongAt("{a..b}@1", 6);
    }

    static void aSpanThatIsNotClosedEndsTooEarly(Case c) {
        String text = "[ab..cd]";
        for (int length = 1; length < text.length(); length++) {
            c.wrongAt(text.substring(0, length), length);
        }
    }

    static void theBytesOfASpan(Case c) {
        goesOn(c, "[", LETTERS);
        goesOn(c, "{", LETTERS);
        goesOn(c, "[a", LETTERS + ".");
        goesOn(c, "{abcdefgh", ".");
        goesOn(c, "[a.", ".");
        goesOn(c, "[a..", LETTERS);
        goesOn(c, "[a..b", LETTERS + "]");
        goesOn(c, "{a..b", LETTERS + "}");
        goesOn(c, "[a..abcdefgh", "]");
        goesOn(c, "[a..b]", "^ ");
        goesOn(c, "{a..b}", "^ ");
    }

    // A GROUP.

    static void aGroupWithoutAClauseIsWrong(Case c) {
        c.wrongAt("()", 1);
        c.wrongAt("( )", 2);
        c.wrongAt("(+)", 2);
        c.wrongAt("(a:)", 3);
        c.wrongAt("(a ())", 4);
    }

    static void blanksInAGroupAreReadAsWished(Case c) {
        allRead(c, 4, "(a b)", "( a  b )", "(   a b)", "(a b   )");
    }

    static void aGroupThatIsNotClosedEndsTooEarly(Case c) {
        c.wrongAt("(", 1);
        c.wrongAt("(a", 2);
        c.wrongAt("(a ", 3);
        c.wrongAt("((a)", 4);
        c.wrongAt("((a) ", 5);
    }

    static void closingWhatIsNotOpenIsWrong(Case c) {
        c.wrongAt(")", 0);
        c.wrongAt("a)", 1);
        c.wrongAt("a )", 2);
        c.wrongAt("(a))", 3);
        c.wrongAt("(a) )", 4);
    }

    static void leastFigures1To9AreRead(Case c) {
        for (int least = 1; least <= 9; least++) {
            c.reads("(a)@" + least, 3);
            c.same("node(1, 4)", c.x.node(1, 4), least);
        }
    }

    static void least0IsWrong(Case c) {
        c.wrongAt("(a)@0", 4);
    }

    static void leastWithoutAFigureIsWrong(Case c) {
        c.wrongAt("(a)@", 4);
        c.wrongAt("(a)@ ", 4);
    }

    static void aSecondFigureOfLeastIsWrong(Case c) {
        c.wrongAt("(a)@10", 5);
        c.wrongAt("(a)@1@1", 5);
    }

    static void leastBehindOtherCoresIsWrong(Case c) {
        c.wrongAt("a@1", 1);
        c.wrongAt("\"a\"@1", 3);
        c.wrongAt("[a..b]@1", 6);
        c.wrongAt("a @1", 2);
    }

    static void nearBehindAGroupIsWrong(Case c) {
        c.wrongAt("(a)~1", 3);
    }

    static void theBytesOfAGroup(Case c) {
        goesOn(c, "(", CLAUSES);
        goesOn(c, "( ", CLAUSES);
        goesOn(c, "(a ", CLAUSES + ")");
        goesOn(c, "(a", SIGNS + ":~^ )");
        goesOn(c, "(?", SIGNS + "^ )");
        goesOn(c, "(+", CORES);
        goesOn(c, "(a:", CORES);
        goesOn(c, "(a~1", "^ )");
        goesOn(c, "(a^", FIGURES);
        goesOn(c, "(a^1", FIGURES + " )");
        goesOn(c, "(a^12", " )");
        goesOn(c, "(\"a\"", "~^ )");
        goesOn(c, "(\"a\"~1", "^ )");
        goesOn(c, "([a..b]", "^ )");
        goesOn(c, "(a)", "@^ ");
        goesOn(c, "((a)", "@^ )");
        goesOn(c, "(a)@", "123456789");
        goesOn(c, "(a)@1", "^ ");
        goesOn(c, "(a)^", FIGURES);
        goesOn(c, "(a)@1^1", FIGURES + " ");
    }

    // The limits of a QUERY.

    static void groups5DeepAreRead(Case c) {
        c.reads("(((((a)))))", 7);
        c.reads("+a:(-b:(c:(d:(a:(b:c)^2)@3)))", 7);
    }

    static void theSixthGroupWithinIsWrong(Case c) {
        c.wrongAt("((((((a))))))", 5);
        c.wrongAt("(((((a (", 7);
        c.wrongAt("(((((+(a", 6);
        c.wrongAt("(((((a:(a", 7);
    }

    static void aClosedGroupIsNoLongerAround(Case c) {
        c.reads("(((((a)))))  (((((b)))))", 13);
        c.reads("(((((a) (b) (c)))))", 11);
        c.wrongAt("(((((a) ((b", 9);
    }

    static void theBytesOfTheFifthGroup(Case c) {
        goesOn(c, "(((((", FLAT_CORES + "+- ");
        goesOn(c, "(((((a ", FLAT_CORES + "+- )");
        goesOn(c, "(((((+", FLAT_CORES);
        goesOn(c, "(((((a:", FLAT_CORES);
        goesOn(c, "((((", CLAUSES);
        goesOn(c, "(((((a) ", CLAUSES + ")");
    }

    static void clauses24AreRead(Case c) {
        c.reads(many(24), 25);
        c.reads(many(23) + "+a:\"b c\"~1^2", 25);
        c.reads(many(24) + " ".repeat(192), 25);
    }

    static void the25thClauseIsWrongWhereItBegins(Case c) {
        for (String clause : new String[] {"z", "?", "+z", "-z", "a:z", "\"z\"", "[a..b]", "{a..b}", "(z)"}) {
            c.wrongAt(many(24) + clause, 48);
        }
        c.wrongAt(many(24) + "   z", 51);
    }

    static void clausesInGroupsAreCountedWithTheGroups(Case c) {
        c.reads("(" + many(23) + ")", 25);
        c.wrongAt("(" + many(23) + "z)", 47);
        c.reads("(" + many(11) + ") (" + many(11) + ")", 25);
        c.wrongAt("(" + many(11) + ") (" + many(11) + ") z", 50);
        c.reads(many(18) + "(((((z)))))", 25);
    }

    static void aGroupThatWouldBeThe24thIsWrong(Case c) {
        c.wrongAt(many(23) + "(z)", 46);
        c.wrongAt(many(23) + "+(z)", 47);
        c.wrongAt(many(23) + "a:(z)", 48);
        c.wrongAt("(" + many(22) + "(", 45);
        c.reads(many(22) + "(z)", 25);
        c.wrongAt(many(22) + "((z))", 45);
        c.wrongAt(many(19) + "(((((z)))))", 42);
    }

    static void theBytesAtTheLastClauses(Case c) {
        goesOn(c, many(24), " ");
        goesOn(c, many(23), FLAT_CORES + "+- ");
        goesOn(c, many(23) + "+", FLAT_CORES);
        goesOn(c, many(23) + "a:", FLAT_CORES);
        goesOn(c, many(22), CLAUSES);
        goesOn(c, many(22) + "(", FLAT_CORES + "+- ");
        goesOn(c, many(22) + "(z ", " )");
    }

    // The WRONG place.

    static void aTextThatEndsTooEarlyIsWrongAtItsLength(Case c) {
        String text = " +a:ab~1^12  -b:\"aa  b\"~3^4 {ab..cd} c:( +a* -?b d:(x y)@2 )^3 [a..b]^0";
        for (int length = 0; length < text.length(); length++) {
            int answer = Due.readText(c.x, text.substring(0, length));
            c.hold("read() of " + length + " bytes is a QUERY or too early: " + answer, answer > 1 || answer == -200 - length);
        }
    }

    static void theFirstOfSeveralWrongPlacesIsTold(Case c) {
        c.wrongAt("a^x^", 2);
        c.wrongAt("XYZ", 0);
        c.wrongAt("(a X Y", 3);
        c.wrongAt("\"a", 2);
    }

    static void theLastByteOf240IsWrong(Case c) {
        c.wrongAt("a" + " ".repeat(238) + "A", 239);
    }

    static void aTextOf240BytesEndsTooEarly(Case c) {
        c.wrongAt("a" + " ".repeat(238) + "(", 240);
    }

    static void aTextOf240BytesIsRead(Case c) {
        String text = "\"abcdefgh abcdefgh abcdefgh abcdefgh abcdefgh\"~1 ";
        c.reads(text.repeat(4) + "abcdefgh~1^10" + " a".repeat(15) + " ", 21);
    }

    // The TAPE and the QUERY behind a read().

    static void theTapeIsEmptyBehindAQuery(Case c) {
        c.reads("abc", 2);
        c.same("feed(1, 'x')", c.x.feed(1, 'x'), 1);
    }

    static void theTapeIsEmptyBehindAWrongText(Case c) {
        c.wrongAt("abc^^", 4);
        c.same("feed(1, 'x')", c.x.feed(1, 'x'), 1);
        c.reads("", 2);
        c.prints("x");
    }

    static void aSecondReadHasNothingToRead(Case c) {
        c.reads("abc", 2);
        c.same("read()", c.x.read(), -200);
    }

    static void aWrongTextKeepsTheQuery(Case c) {
        c.reads("+a:b^3 \"c d\"~2 (e)@1", 5);
        c.wrongAt("x y z [a..b] (((((w) \"", 22);
        c.prints("+a:b^3 \"c d\"~2 (e)@1");
        c.node(0, "3 0 1 -1 -1 3 -1");
        c.node(4, "0 0 1 -1 0 1 3");
        c.told("node(5, 0)", () -> c.x.node(5, 0), Due.OUTSIDE_ROW);
    }

    static void anEmptyTapeKeepsTheQuery(Case c) {
        c.reads("ab", 2);
        c.wrongAt("", 0);
        c.prints("ab");
    }

    static void aWrongTextWithoutAQueryLeavesNone(Case c) {
        c.wrongAt("a b (", 5);
        c.same("print()", c.x.print(), QueryTexts.STATE);
        c.told("node(0, 0)", () -> c.x.node(0, 0), Due.OUTSIDE_ROW);
        c.same("rank(0)", c.x.rank(0), QueryTexts.STATE);
    }

    static void aNewQueryTakesThePlaceOfTheOld(Case c) {
        c.reads("\"a b c d e\"~9^9 (x y)@2 z", 6);
        c.reads("ab", 2);
        c.reads("+c", 2);
        c.prints("+c");
        c.node(0, "3 0 1 -1 -1 1 -1");
        c.node(1, "0 1 1 -1 0 1 0");
        c.told("node(2, 0)", () -> c.x.node(2, 0), Due.OUTSIDE_ROW);
    }
}
