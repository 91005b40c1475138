/** Promises 11 to 13 at their boundaries. */
final class TextsEdgesTest {
    private static final String FIFTY = "1+2+3+4+5+6+7+8+9+1+2+3+4+5+6+7+8+9+1+2+3+4+5+6+78";

    public static void main(String[] args) throws Exception {
        Edges.run(TextsEdgesTest.class, 11, 13);
    }

    private static ShelfNights withTape(int bytes) {
        ShelfNights x = new ShelfNights();
        Due.feed(x, FIFTY.substring(0, bytes));
        return x;
    }

    private static void goesOn(String text) {
        Due.is("text(0) of " + text, Due.textOf(new ShelfNights(), 0, text), 1);
    }

    private static void faultAt(int fault, String text) {
        Due.is("text(0) of " + text, Due.textOf(new ShelfNights(), 0, text), -10 - fault);
    }

    private static void worth(String text, int a, int p, int n, int due) {
        ShelfNights x = new ShelfNights();
        Due.is("text(1) of " + text, Due.textOf(x, 1, text), 1);
        Due.is(text + " of " + a + ", " + p + ", " + n, x.law(1, a, p, n), due);
    }

    private static void merge(String text, int o, int l, int r, int due) {
        ShelfNights x = Edges.shelfBy(text, null);
        Due.is(text + " of " + o + ", " + l + ", " + r, x.law(0, o, l, r), due);
    }

    // ---- promise 11: feed

    @Says("The n lowest bytes (1 .. 8) of a word, the lowest first, come to THE TAPE: how many there are. BEYOND.")
    static void promise11_nTooSmall() {
        Edges.refused("feed('o', 0)", Due.BEYOND, x -> x.feed('o', 0));
        Edges.refused("feed('o', -1)", Due.BEYOND, x -> x.feed('o', -1));
        Edges.refused("feed('o', MIN)", Due.BEYOND, x -> x.feed('o', Edges.MIN));
    }

    @Says("The n lowest bytes (1 .. 8) of a word, the lowest first, come to THE TAPE: how many there are. BEYOND.")
    static void promise11_nTooLarge() {
        Edges.refused("feed('o', 9)", Due.BEYOND, x -> x.feed('o', 9));
        Edges.refused("feed('o', MAX)", Due.BEYOND, x -> x.feed('o', Edges.MAX));
    }

    @Says("The n lowest bytes (1 .. 8) of a word, the lowest first, come to THE TAPE: how many there are.")
    static void promise11_oneByteAndEight() {
        ShelfNights x = new ShelfNights();
        Due.is("feed(word, 1)", x.feed(0x6F6F6F6F6F6F6F31L, 1), 1);
        Due.is("text(0) of 1", x.text(0), 1);
        Due.is("law(0, 5, 5, 5)", x.law(0, 5, 5, 5), 1);
        // 1+2*3+4*5, the last sign in the highest byte.
        Due.is("feed(word, 8)", x.feed(0x342B332A322B31L | (long) '*' << 56, 8), 8);
        Due.is("feed(word, 1)", x.feed('5', 1), 9);
        Due.is("text(0) of 1+2*3+4*5", x.text(0), 1);
        Due.is("law(0, 5, 5, 5)", x.law(0, 5, 5, 5), 27);
    }

    @Says("The n lowest bytes (1 .. 8) of a word, the lowest first, come to THE TAPE")
    static void promise11_theLowestFirst() {
        ShelfNights x = new ShelfNights();
        x.feed('9' | '-' << 8 | '2' << 16, 3);
        x.text(0);
        Due.is("law(0, 0, 0, 0) by 9-2", x.law(0, 0, 0, 0), 7);
    }

    @Says("The n lowest bytes (1 .. 8) of a word")
    static void promise11_bytesOfAWordBelow0() {
        ShelfNights x = new ShelfNights();
        Due.is("feed(-1, 8)", x.feed(-1L, 8), 8);
        Due.is("text(0)", x.text(0), -10);
        x.feed(~0xFFFFL | 'o' | '*' << 8, 2);
        x.feed(Long.MIN_VALUE | '2', 1);
        Due.is("text(0) of o*2", x.text(0), 1);
        Due.is("law(0, 4, 0, 0)", x.law(0, 4, 0, 0), 8);
    }

    @Says("THE TAPE (bytes, at most 50)")
    static void promise11_theFiftiethByte() {
        ShelfNights x = withTape(48);
        Due.is("feed(.., 2), 48 there", x.feed('7' | '8' << 8, 2), 50);
        Due.is("count(4)", x.count(4), 50);
        Due.is("text(0) of fifty bytes", x.text(0), 1);
        // 1 to 9 twice, 1 to 6, 78.
        Due.is("text(1) of its last bytes", Due.textOf(x, 1, FIFTY), 1);
        Due.is("law(1, 0, 0, 0)", x.law(1, 0, 0, 0), 45 + 45 + 21 + 78);
    }

    @Says("FULL. ## Promise 12: text")
    static void promise11_theFiftyFirstIsFull() {
        Edges.refused(() -> withTape(50), "feed('8', 1), 50 there", Due.FULL, x -> x.feed('8', 1));
        Edges.refused(() -> withTape(50), "feed(0, 8), 50 there", Due.FULL, x -> x.feed(0, 8));
    }

    @Says("one that answers an ERROR changes nothing but what told() tells")
    static void promise11_ofAWordThatIsTooLongNothingComes() {
        Edges.refused(() -> withTape(48), "feed(.., 3), 48 there", Due.FULL, x -> x.feed('7' | '8' << 8, 3));
        Edges.refused(() -> withTape(43), "feed(.., 8), 43 there", Due.FULL, x -> x.feed('7' | '8' << 8, 8));
        Due.is("feed(.., 7), 43 there", withTape(43).feed(0, 7), 50);
    }

    @Says("Each act tells its ERRORS in the order in which they are asked")
    static void promise11_beyondAheadOfFull() {
        Edges.refused(() -> withTape(50), "feed('8', 9), 50 there", Due.BEYOND, x -> x.feed('8', 9));
        Edges.refused(() -> withTape(50), "feed('8', 0), 50 there", Due.BEYOND, x -> x.feed('8', 0));
    }

    // ---- promise 12: text

    @Says("BEYOND (THE TAPE stays).")
    static void promise12_useBeyond() {
        Edges.refused("text(-1)", Due.BEYOND, x -> x.text(-1));
        Edges.refused("text(MIN)", Due.BEYOND, x -> x.text(Edges.MIN));
        Edges.refused("text(2)", Due.BEYOND, x -> x.text(2));
        Edges.refused("text(MAX)", Due.BEYOND, x -> x.text(Edges.MAX));
        Edges.refused(ShelfNights::new, "text(2) of nothing", Due.BEYOND, x -> x.text(2));
    }

    @Says("BEYOND (THE TAPE stays).")
    static void promise12_theTapeStaysWhereTheUseIsBeyond() {
        ShelfNights x = new ShelfNights();
        Due.feed(x, "o*3");
        x.text(2);
        Due.is("count(4)", x.count(4), 3);
        Due.is("text(0)", x.text(0), 1);
        Due.is("law(0, 4, 0, 0)", x.law(0, 4, 0, 0), 12);
    }

    @Says("how many there are, if it ends too early.")
    static void promise12_anEmptyTape() {
        faultAt(0, "");
        Due.is("text(1) of nothing", new ShelfNights().text(1), -10);
    }

    @Says("how many there are, if it ends too early.")
    static void promise12_endsTooEarly() {
        faultAt(2, "o+");
        faultAt(1, "(");
        faultAt(2, "(o");
        faultAt(1, "!");
        faultAt(2, "o|");
        faultAt(2, "o&");
        faultAt(2, "o<");
        faultAt(4, "1*2%");
        faultAt(9, "((o+1)*2-");
    }

    @Says("how many there are, if it ends too early.")
    static void promise12_fiftyBytesThatEndTooEarly() {
        faultAt(50, FIFTY.substring(0, 49) + "+");
        faultAt(50, "(" + FIFTY.substring(0, 49));
    }

    @Says("-10 less the FAULT (no ERROR; the one ahead stays; THE TAPE is empty, too).")
    static void promise12_aFaultIsNoError() {
        ShelfNights x = new ShelfNights();
        Due.is("text(0) of +", Due.textOf(x, 0, "+"), -10);
        for (int k = 1; k <= 5; k++) {
            Due.is("told(" + k + ")", x.told(k), 0);
        }
    }

    @Says("-10 less the FAULT (no ERROR; the one ahead stays; THE TAPE is empty, too).")
    static void promise12_theOneAheadStaysAtAFault() {
        ShelfNights x = Edges.shelfBy("o*2", "p*3");
        Due.is("text(0) of l*4+", Due.textOf(x, 0, "l*4+"), -14);
        Due.is("text(1) of a)", Due.textOf(x, 1, "a)"), -11);
        Due.is("MERGE", x.law(0, 5, 6, 7), 10);
        Due.is("SENSE", x.law(1, 5, 6, 7), 18);
    }

    @Says("-10 less the FAULT (no ERROR; the one ahead stays; THE TAPE is empty, too).")
    static void promise12_noTextStaysNoneAtAFault() {
        ShelfNights x = new ShelfNights();
        Due.textOf(x, 0, "o+");
        Due.textOf(x, 1, "o");
        Due.is("MERGE", x.law(0, 3, 6, 9), 6);
        Due.is("SENSE", x.law(1, 3, 6, 9), 1);
    }

    @Says("-10 less the FAULT (no ERROR; the one ahead stays; THE TAPE is empty, too).")
    static void promise12_theTapeIsEmptyBehindAFault() {
        ShelfNights x = new ShelfNights();
        Due.textOf(x, 0, "o+");
        Due.is("count(4)", x.count(4), 0);
        Due.is("text(0), of nothing", x.text(0), -10);
    }

    @Says("At most 5 of ! and ( are open at once.")
    static void promise12_whatAFaultLeftOpenIsNotOpen() {
        ShelfNights x = new ShelfNights();
        for (String fault : new String[] {"(((((", "!!!!!", "((o+1)*2<(l|", "1234", "o+l*"}) {
            Due.textOf(x, 0, fault);
            Due.is("text(0) behind " + fault, Due.textOf(x, 0, "(((((o)))))"), 1);
            Due.textOf(x, 1, fault);
            Due.is("text(1) behind " + fault, Due.textOf(x, 1, "!!!!!a"), 1);
            Due.textOf(x, 0, fault);
            Due.is("text(0) of ) behind " + fault, Due.textOf(x, 0, "o)"), -11);
            Due.is("text(0) of 5 behind " + fault, Due.textOf(x, 0, "5"), 1);
            Due.is("law(0, 0, 0, 0) behind " + fault, x.law(0, 0, 0, 0), 5);
        }
    }

    @Says("THE TAPE, which is empty then, is the TEXT of a USE (0, 1), in place of one ahead: 1.")
    static void promise12_theTapeIsEmptyThen() {
        ShelfNights x = Edges.shelfBy("o", null);
        Due.is("count(4)", x.count(4), 0);
        Due.is("text(0), of nothing", x.text(0), -10);
        Due.is("the one ahead", x.law(0, 8, 0, 0), 8);
    }

    @Says("in place of one ahead: 1.")
    static void promise12_inPlaceOfALongerOneAhead() {
        ShelfNights x = Edges.shelfBy("(o+l)*r-7", "(a+p)*n-7");
        Due.is("text(0) of l", Due.textOf(x, 0, "l"), 1);
        Due.is("law(0, 1, 5, 9)", x.law(0, 1, 5, 9), 5);
        Due.is("SENSE stays", x.law(1, 1, 5, 9), 47);
        Due.is("text(1) of p", Due.textOf(x, 1, "p"), 1);
        Due.is("law(1, 1, 5, 9)", x.law(1, 1, 5, 9), 5);
    }

    @Says("a NUMBER of 1 to 4 digits")
    static void promise12_numbersOfOneAndFourDigits() {
        goesOn("0");
        goesOn("9");
        goesOn("9999");
        goesOn("0000");
        worth("9999", 0, 0, 0, 9999);
        worth("0010", 0, 0, 0, 10);
    }

    @Says("a NUMBER of 1 to 4 digits")
    static void promise12_aNumberOfFiveDigits() {
        faultAt(4, "12345");
        faultAt(4, "00000");
        faultAt(6, "o*12345+r");
    }

    @Says("a NUMBER of 1 to 4 digits")
    static void promise12_aNumberBehindWhatIsNone() {
        faultAt(1, "o1");
        faultAt(3, "(1)2");
        faultAt(2, "12o");
        faultAt(1, "1(2)");
        faultAt(1, "1!2");
    }

    @Says("FAULT: the place of the first byte with which no TEXT goes on")
    static void promise12_signsBesideTheDigits() {
        faultAt(0, "/");
        faultAt(0, ":");
        faultAt(1, "1:");
        faultAt(1, "1;");
    }

    @Says("No blanks.")
    static void promise12_blanks() {
        faultAt(0, " o");
        faultAt(1, "o ");
        faultAt(2, "o+ l");
        faultAt(1, "o\n");
    }

    @Says("NAMES o its own, l from the one ahead, r from the one behind")
    static void promise12_namesOfMergeAlone() {
        goesOn("o+l+r");
        faultAt(0, "a");
        faultAt(2, "o+p");
        faultAt(2, "o+n");
        faultAt(0, "O");
        faultAt(0, "k");
        faultAt(0, "m");
        faultAt(0, "q");
        faultAt(0, "s");
    }

    @Says("NAMES a the PAGE ahead, p itself, n its number (1 to 5)")
    static void promise12_namesOfSenseAlone() {
        Due.is("text(1) of a+p+n", Due.textOf(new ShelfNights(), 1, "a+p+n"), 1);
        for (String name : new String[] {"o", "l", "r", "b", "m", "q", "A", "`"}) {
            Due.is("text(1) of a+" + name, Due.textOf(new ShelfNights(), 1, "a+" + name), -12);
        }
    }

    @Says("B: S, or S < S, S = S, S > S.")
    static void promise12_oneComparisonAlone() {
        goesOn("o<l");
        faultAt(3, "o<l<r");
        faultAt(3, "o<l=r");
        faultAt(3, "o=l=r");
        faultAt(3, "o>l>r");
        faultAt(7, "o+1=l*2>r");
        faultAt(4, "(o<l<r)");
    }

    @Says("A: B { & B }. B: S, or S < S, S = S, S > S.")
    static void promise12_oneComparisonMoreBehindAJoin() {
        goesOn("o<l&l<r");
        goesOn("o<l|l<r");
        goesOn("o<(l<r)");
        goesOn("(o<l)<r");
        goesOn("!(o<l)=r");
    }

    @Says("At most 5 of ! and ( are open at once.")
    static void promise12_fiveAreOpen() {
        goesOn("!!!!!o");
        goesOn("(((((o)))))");
        goesOn("!(!(!o))");
        goesOn("(!(!(o)))");
    }

    @Says("At most 5 of ! and ( are open at once.")
    static void promise12_sixAreOpen() {
        faultAt(5, "!!!!!!o");
        faultAt(5, "((((((o))))))");
        faultAt(5, "!(!(!(o)))");
        faultAt(5, "!!!!!(o)");
        faultAt(11, "1*2+3-((((((o");
        faultAt(14, "!o*!1+!l-!!!!!!o");
        faultAt(11, "(1*2+3-(((((o");
        faultAt(7, "(((((o+!o)))))");
        faultAt(7, "(((((o+(o))))))");
    }

    @Says("At most 5 of ! and ( are open at once.")
    static void promise12_whatIsClosedIsNotOpen() {
        goesOn("!!!!!o+!!!!!o+(((((o)))))+(!(!(o)))");
        goesOn("((((!o+!o*(o)+!1))))");
        goesOn("(((((o)+(o)))+((o))))");
        goesOn("((((!o))))+!!!!(o)");
        faultAt(8, "((((!1*!(o)))))");
    }

    @Says("! Q, ( T )")
    static void promise12_whatNothingOpened() {
        faultAt(1, "o)");
        faultAt(0, ")");
        faultAt(1, "()");
        faultAt(3, "(o))");
        faultAt(1, "o!");
        faultAt(2, "(!)");
    }

    @Says("S: P { + P, - P }. P: Q { * Q, / Q, % Q }.")
    static void promise12_nothingToJoin() {
        faultAt(0, "+o");
        faultAt(0, "-1");
        faultAt(2, "o+-l");
        faultAt(2, "o--l");
        faultAt(2, "o*/l");
        faultAt(2, "o||l");
        faultAt(2, "o&&l");
        faultAt(2, "o==l");
        faultAt(1, "!=l");
        faultAt(1, "(*l)");
    }

    @Says("FAULT: the place of the first byte with which no TEXT goes on")
    static void promise12_theFirstOfSeveralFaults() {
        faultAt(1, "o o o");
        faultAt(2, "o+)+)");
        faultAt(49, FIFTY.substring(0, 49) + "x");
    }

    @Says("TEXTS are read from THE TAPE (bytes, at most 50)")
    static void promise12_bytesBeyondTheSigns() {
        faultAt(0, "" + (char) 0);
        faultAt(1, "o" + (char) 0);
        faultAt(0, "" + (char) ('o' + 128));
        faultAt(1, "o" + (char) ('+' + 128));
        faultAt(1, "1" + (char) ('1' + 128));
        faultAt(1, "o" + (char) 255);
    }

    // ---- promise 13: law

    @Says("What a USE gives with its NAMES in order as a, b, c (SENSE: any number). BEYOND.")
    static void promise13_useBeyond() {
        Edges.refused("law(-1, 1, 2, 3)", Due.BEYOND, x -> x.law(-1, 1, 2, 3));
        Edges.refused("law(MIN, 1, 2, 3)", Due.BEYOND, x -> x.law(Edges.MIN, 1, 2, 3));
        Edges.refused("law(2, 1, 2, 3)", Due.BEYOND, x -> x.law(2, 1, 2, 3));
        Edges.refused("law(MAX, 1, 2, 3)", Due.BEYOND, x -> x.law(Edges.MAX, 1, 2, 3));
    }

    @Says("What a USE gives with its NAMES in order as a, b, c")
    static void promise13_namesInOrder() {
        merge("o*9-l*3-r", 9, 7, 5, 55);
        worth("a*9-p*3-n", 9, 7, 5, 55);
    }

    @Says("held within 0 to 99")
    static void promise13_mergeIsHeldFromBelow() {
        merge("o-l", 5, 5, 0, 0);
        merge("o-l", 5, 6, 0, 0);
        merge("o-l", 6, 5, 0, 1);
        merge("o", Edges.MIN, 0, 0, 0);
    }

    @Says("held within 0 to 99")
    static void promise13_mergeIsHeldFromAbove() {
        merge("o+l", 98, 0, 0, 98);
        merge("o+l", 98, 1, 0, 99);
        merge("o+l", 98, 2, 0, 99);
        merge("o", Edges.MAX, 0, 0, 99);
    }

    @Says("held within 0 to 99; without a TEXT (o+l+r)/3.")
    static void promise13_mergeWithoutATextIsHeld() {
        Due.is("law(0, 99, 99, 99)", new ShelfNights().law(0, 99, 99, 99), 99);
        Due.is("law(0, 100, 100, 100)", new ShelfNights().law(0, 100, 100, 100), 99);
        Due.is("law(0, -1, -1, -1)", new ShelfNights().law(0, -1, -1, -1), 0);
        Due.is("law(0, 0, 0, 0)", new ShelfNights().law(0, 0, 0, 0), 0);
    }

    @Says("Quotients are cut.")
    static void promise13_mergeWithoutATextIsCut() {
        Due.is("law(0, 0, 1, 1)", new ShelfNights().law(0, 0, 1, 1), 0);
        Due.is("law(0, 1, 1, 1)", new ShelfNights().law(0, 1, 1, 1), 1);
        Due.is("law(0, 1, 2, 2)", new ShelfNights().law(0, 1, 2, 2), 1);
    }

    @Says("Ints that wrap")
    static void promise13_mergeWithoutATextWraps() {
        Due.is("law(0, MAX, 1, 0)", new ShelfNights().law(0, Edges.MAX, 1, 0), 0);
        Due.is("law(0, MIN, MIN, 6)", new ShelfNights().law(0, Edges.MIN, Edges.MIN, 6), 2);
    }

    @Says("without a TEXT a<p.")
    static void promise13_senseWithoutAText() {
        ShelfNights x = new ShelfNights();
        Due.is("law(1, 5, 6, 0)", x.law(1, 5, 6, 0), 1);
        Due.is("law(1, 5, 5, 0)", x.law(1, 5, 5, 0), 0);
        Due.is("law(1, 6, 5, 0)", x.law(1, 6, 5, 0), 0);
        Due.is("law(1, MIN, MAX, 0)", x.law(1, Edges.MIN, Edges.MAX, 0), 1);
        Due.is("law(1, MAX, MIN, 0)", x.law(1, Edges.MAX, Edges.MIN, 0), 0);
    }

    @Says("(SENSE: any number)")
    static void promise13_senseGivesAnyNumberAndNoError() {
        ShelfNights x = Edges.shelfBy(null, "n");
        for (int v : new int[] {Edges.MIN, Due.KIND, Due.BEYOND, -1, 0, 100, Edges.MAX}) {
            Due.is("law(1, 0, 0, " + v + ")", x.law(1, 0, 0, v), v);
        }
        for (int k = 1; k <= 5; k++) {
            Due.is("told(" + k + ")", x.told(k), 0);
        }
    }

    @Says("Ints that wrap")
    static void promise13_intsWrap() {
        worth("a+p", Edges.MAX, 1, 0, Edges.MIN);
        worth("a-p", Edges.MIN, 1, 0, Edges.MAX);
        worth("a*p", 65536, 65536, 0, 0);
        worth("a*p", Edges.MIN, -1, 0, Edges.MIN);
        worth("a*p", 46341, 46341, 0, -2147479015);
        worth("9999*9999*9999", 0, 0, 0, -1027349969);
    }

    @Says("both by 0 are 0")
    static void promise13_by0() {
        worth("a/p", 7, 0, 0, 0);
        worth("a%p", 7, 0, 0, 0);
        worth("a/p", 0, 0, 0, 0);
        worth("a%p", Edges.MIN, 0, 0, 0);
        worth("1/(a-a)+5", 3, 0, 0, 5);
    }

    @Says("/ cut, % the rest that it leaves")
    static void promise13_cutOfWhatIsBelow0() {
        worth("a/p", 7, 2, 0, 3);
        worth("a/p", -7, 2, 0, -3);
        worth("a/p", 7, -2, 0, -3);
        worth("a/p", -7, -2, 0, 3);
        worth("a/p", -1, 2, 0, 0);
    }

    @Says("/ cut, % the rest that it leaves")
    static void promise13_restOfWhatIsBelow0() {
        worth("a%p", 7, 3, 0, 1);
        worth("a%p", -7, 3, 0, -1);
        worth("a%p", 7, -3, 0, 1);
        worth("a%p", -7, -3, 0, -1);
        worth("a%p", 6, 3, 0, 0);
    }

    @Says("Ints that wrap; / cut")
    static void promise13_theLeastIntByMinus1() {
        worth("a/p", Edges.MIN, -1, 0, Edges.MIN);
        worth("a%p", Edges.MIN, -1, 0, 0);
    }

    @Says("| & < = > ! are 1 or 0")
    static void promise13_comparisonsAtEqual() {
        worth("a<p", 5, 5, 0, 0);
        worth("a<p", 4, 5, 0, 1);
        worth("a>p", 5, 5, 0, 0);
        worth("a>p", 6, 5, 0, 1);
        worth("a=p", 5, 5, 0, 1);
        worth("a=p", 5, 6, 0, 0);
        worth("a=p", 6, 5, 0, 0);
    }

    @Says("| & < = > ! are 1 or 0")
    static void promise13_comparisonsOfTheLeastAndTheGreatest() {
        worth("a<p", Edges.MIN, Edges.MAX, 0, 1);
        worth("a<p", Edges.MAX, Edges.MIN, 0, 0);
        worth("a>p", Edges.MIN, Edges.MAX, 0, 0);
        worth("a>p", Edges.MAX, Edges.MIN, 0, 1);
    }

    @Says("what is not 0 being true")
    static void promise13_whatIsNot0IsTrue() {
        for (int v : new int[] {1, 2, -1, Edges.MIN, Edges.MAX, 256}) {
            worth("a|p", v, 0, 0, 1);
            worth("a|p", 0, v, 0, 1);
            worth("a&p", v, 4, 0, 1);
            worth("a&p", 4, v, 0, 1);
            worth("!a", v, 0, 0, 0);
            worth("!!a", v, 0, 0, 1);
        }
    }

    @Says("what is not 0 being true")
    static void promise13_0IsNotTrue() {
        worth("a|p", 0, 0, 0, 0);
        worth("a&p", 0, 4, 0, 0);
        worth("a&p", 4, 0, 0, 0);
        worth("a&p", 0, 0, 0, 0);
        worth("!a", 0, 0, 0, 1);
        worth("!!a", 0, 0, 0, 0);
        worth("a&p", 1, 2, 0, 1);
    }

    @Says("T: A { | A }. A: B { & B }.")
    static void promise13_whatBindsMore() {
        worth("a|p&n", 1, 0, 0, 1);
        worth("a&p|n", 0, 0, 1, 1);
        worth("a&p<n", 1, 2, 3, 1);
        worth("a<p&n", 1, 2, 0, 0);
        worth("a<p+n", 3, 2, 2, 1);
        worth("a+p<n", 3, 2, 4, 0);
        worth("a+p*n", 1, 2, 3, 7);
        worth("a*p+n", 2, 3, 1, 7);
        worth("!a+p", 0, 7, 0, 8);
        worth("!a*p", 0, 7, 0, 7);
        worth("!a=p", 0, 1, 0, 1);
    }

    @Says("S: P { + P, - P }. P: Q { * Q, / Q, % Q }.")
    static void promise13_fromTheFirstOn() {
        worth("a-p-n", 10, 3, 2, 5);
        worth("a-p+n", 10, 3, 2, 9);
        worth("a/p/n", 40, 5, 2, 4);
        worth("a/p*n", 7, 2, 2, 6);
        worth("a%p*n", 7, 4, 5, 15);
        worth("a*p%n", 7, 4, 5, 3);
    }

    @Says("THE TAPE (bytes, at most 50)")
    static void promise13_fiftyBytesWorkedOut() {
        worth("!a+!a+!a+!a+!a+!a+!a+!a+!a+!a+!a+!a+!a+!a+!a+!a+!a", 0, 0, 0, 17);
        worth("a|p&n<1+2*(a|p&n<1+2*(a|p&n<1+2*(a|p&n<1+2*(99))))", 0, 1, 2, 1);
    }
}
