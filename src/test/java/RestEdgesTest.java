/** Promises 25 to 38 at their boundaries. */
final class RestEdgesTest {
    private static final int[] FAR = {Edges.MIN, Edges.MIN + 1, -1000000006, Due.KIND, Due.FULL, Due.STATE, Due.NONE,
        Due.BEYOND, -1000000000, -1, 0, 1, Edges.MAX};

    public static void main(String[] args) throws Exception {
        Edges.run(RestEdgesTest.class, 25, 38);
    }

    private static void noErrorIsTold(ShelfNights x) {
        for (int k = 1; k <= 5; k++) {
            Due.is("told(" + k + ")", x.told(k), 0);
        }
    }

    /** Whether these are the numbers of a SHEET: BOOK 0 reads them. */
    private static void shows(ShelfNights x, int sheet, int... numbers) {
        Due.is("reads(" + sheet + ")", x.reads(sheet), numbers.length);
        for (int i = 0; i < numbers.length; i++) {
            Due.is("number " + i + " of SHEET " + sheet, x.pageOf(0, i), numbers[i]);
        }
    }

    // ---- promise 25: seed

    @Says("z becomes v: what it was (any number).")
    static void promise25_anyNumber() {
        ShelfNights x = new ShelfNights();
        int was = 1;
        for (int v : FAR) {
            Due.is("seed(" + v + ")", x.seed(v), was);
            Due.is("count(7)", x.count(7), v);
            was = v;
        }
        noErrorIsTold(x);
    }

    @Says("z becomes v: what it was (any number).")
    static void promise25_drawsGoOnFromZ0() {
        ShelfNights x = Edges.shelf(0);
        x.seed(0);
        x.readers(1);
        // 12345 * 1103515245 + 12345, as an int.
        Due.is("z behind two draws", x.seed(9), -740551042);
    }

    // ---- promise 26: voice

    @Says("A VOICE of a BOOK: any number. BEYOND.")
    static void promise26_bookBeyond() {
        Edges.refused("voice(-1, 0, 1)", Due.BEYOND, x -> x.voice(-1, 0, 1));
        Edges.refused("voice(MIN, 0, 1)", Due.BEYOND, x -> x.voice(Edges.MIN, 0, 1));
        Edges.refused("voice(3, 0, 1) of three", Due.BEYOND, x -> x.voice(3, 0, 1));
        Edges.refused("voice(MAX, 0, 1)", Due.BEYOND, x -> x.voice(Edges.MAX, 0, 1));
        Edges.refused(ShelfNights::new, "voice(0, 0, 1) of none", Due.BEYOND, x -> x.voice(0, 0, 1));
    }

    @Says("0 reads, 1 gives, 2 takes, 3 tells.")
    static void promise26_actBeyond() {
        Edges.refused("voice(0, -1, 1)", Due.BEYOND, x -> x.voice(0, -1, 1));
        Edges.refused("voice(0, MIN, 1)", Due.BEYOND, x -> x.voice(0, Edges.MIN, 1));
        Edges.refused("voice(0, 4, 1)", Due.BEYOND, x -> x.voice(0, 4, 1));
        Edges.refused("voice(0, MAX, 1)", Due.BEYOND, x -> x.voice(0, Edges.MAX, 1));
    }

    @Says("0 reads, 1 gives, 2 takes, 3 tells.")
    static void promise26_firstAndLastAct() {
        ShelfNights x = Edges.shelf(0, 1);
        Due.is("voice(1, 0, 5)", x.voice(1, 0, 5), 6);
        Due.is("voice(1, 1, 5)", x.voice(1, 1, 5), 12);
        Due.is("voice(1, 2, 5)", x.voice(1, 2, 5), 4);
        Due.is("voice(1, 3, 5)", x.voice(1, 3, 5), 12 ^ 4);
    }

    @Says("with a number x (ints that go round)")
    static void promise26_readsGoRound() {
        Due.is("BOOK: MAX + 1", Edges.shelf(0, 0).voice(1, 0, Edges.MAX), Edges.MIN);
        Due.is("BOOK: MAX + 0", Edges.shelf(0).voice(0, 0, Edges.MAX), Edges.MAX);
        Due.is("GRAMMAR: MAX * 3", Edges.shelf(10).voice(0, 0, Edges.MAX), 2147483645);
        Due.is("GRAMMAR: MIN * 3", Edges.shelf(10).voice(0, 0, Edges.MIN), Edges.MIN);
    }

    @Says("with a number x (ints that go round)")
    static void promise26_givesGoRound() {
        Due.is("BOOK: MAX * 2", Edges.shelf(0).voice(0, 1, Edges.MAX), -2);
        Due.is("BOOK: MIN * 2", Edges.shelf(0).voice(0, 1, Edges.MIN), 0);
        Due.is("POEM: MIN - 1", Edges.shelf(20).voice(0, 1, -(1 << 30)), Edges.MAX);
        Due.is("HERESY: MAX + 1", Edges.shelf(50).voice(0, 1, Edges.MAX), -1);
    }

    @Says("with a number x (ints that go round)")
    static void promise26_takesGoRound() {
        Due.is("BOOK: MIN - 9", Edges.shelf(9).voice(0, 2, Edges.MIN), 2147483639);
        Due.is("LAW: -MIN", Edges.shelf(30).voice(0, 2, Edges.MIN), Edges.MIN);
        Due.is("LAW: -(MIN - 1)", Edges.shelf(31).voice(0, 2, Edges.MIN), -Edges.MAX);
        Due.is("BIBLE: -MIN ^ 1", Edges.shelf(0, 60).voice(1, 2, Edges.MIN), Edges.MIN + 1);
        Due.is("BIBLE: -MAX ^ 1", Edges.shelf(0, 60).voice(1, 2, Edges.MAX), Edges.MIN);
    }

    @Says("with a number x (ints that go round)")
    static void promise26_tellsGoRound() {
        // MIN gives 0, as its only bit goes out of the int.
        Due.is("BOOK: 0 ^ MIN - 1", Edges.shelf(1).voice(0, 3, Edges.MIN), Edges.MAX);
        Due.is("DICTIONARY: (0 ^ MIN) - 6", Edges.shelf(40).voice(0, 3, Edges.MIN), 2147483642);
        Due.is("BIBLE: 0 - (0 ^ -MIN)", Edges.shelf(60).voice(0, 3, Edges.MIN), Edges.MIN);
        Due.is("BIBLE: -2 - (-2 ^ -MAX)", Edges.shelf(60).voice(0, 3, Edges.MAX), Edges.MAX);
    }

    @Says("A VOICE of a BOOK: any number.")
    static void promise26_anyNumberIsNoError() {
        ShelfNights x = Edges.shelf(0);
        for (int v : FAR) {
            Due.is("voice(0, 0, " + v + ")", x.voice(0, 0, v), v);
        }
        noErrorIsTold(x);
    }

    @Says("n is the number, m as told")
    static void promise26_theNumberIsNotThePlace() {
        ShelfNights x = Edges.shelf(0, 0, 7);
        x.stand(2, 0);
        Due.is("voice(2, 0, 10)", x.voice(2, 0, 10), 12);
        Due.is("voice(2, 2, 10)", x.voice(2, 2, 10), 3);
        Due.is("voice(0, 0, 10)", x.voice(0, 0, 10), 10);
    }

    // ---- promise 27: trace

    @Says("THE TRACE's i-th. NONE: there is none such.")
    static void promise27_noneYet() {
        Edges.refused(ShelfNights::new, "trace(0)", Due.NONE, x -> x.trace(0));
        Edges.refused(() -> Edges.shelf(0), "trace(0)", Due.NONE, x -> x.trace(0));
    }

    @Says("THE TRACE's i-th. NONE: there is none such.")
    static void promise27_iTooSmall() {
        Edges.refused("trace(-1)", Due.NONE, x -> x.trace(-1));
        Edges.refused("trace(MIN)", Due.NONE, x -> x.trace(Edges.MIN));
    }

    @Says("THE TRACE's i-th. NONE: there is none such.")
    static void promise27_iTooLarge() {
        // BOOK 1, a POEM, tells: 13 30 11 10 12 12.
        Edges.refused("trace(6) of six", Due.NONE, x -> x.trace(6));
        Edges.refused("trace(39)", Due.NONE, x -> x.trace(39));
        Edges.refused("trace(40)", Due.NONE, x -> x.trace(40));
        Edges.refused("trace(MAX)", Due.NONE, x -> x.trace(Edges.MAX));
    }

    @Says("THE TRACE's i-th.")
    static void promise27_firstAndLast() {
        ShelfNights x = Edges.furnished();
        Due.is("count(6)", x.count(6), 6);
        Due.is("trace(0)", x.trace(0), 13);
        Due.is("trace(5)", x.trace(5), 12);
    }

    @Says("the numbers of BODIES of the latest voice(), as they began (what stands left is worked out first)")
    static void promise27_aShorterOneBehindALongerOne() {
        ShelfNights x = Edges.furnished();
        x.voice(0, 2, 1);
        Due.is("count(6)", x.count(6), 1);
        Due.is("trace(0)", x.trace(0), 12);
        Due.is("trace(1)", x.trace(1), Due.NONE);
    }

    @Says("the numbers of BODIES of the latest voice(), as they began (what stands left is worked out first), the first 40.")
    static void promise27_theLongestOfAll() {
        int[][] due = {{50, 13, 11, 20, 10, 12, 20, 10}, {13, 60, 30, 11, 10, 12, 12},
            {71, 11, 10, 13, 11, 10, 70, 40, 12}};
        for (int kind = 4; kind < 7; kind++) {
            ShelfNights x = Edges.shelf(10 * kind);
            x.voice(0, 3, 1);
            int[] bodies = due[kind - 4];
            Due.is("KIND " + kind + ": count(6)", x.count(6), bodies.length);
            for (int i = 0; i < bodies.length; i++) {
                Due.is("KIND " + kind + ": trace(" + i + ")", x.trace(i), bodies[i]);
            }
            Due.is("KIND " + kind + ": trace behind all", x.trace(bodies.length), Due.NONE);
        }
    }

    @Says("one that answers an ERROR changes nothing but what told() tells")
    static void promise27_theTraceStaysAtARefusedVoice() {
        ShelfNights x = Edges.furnished();
        x.voice(3, 0, 1);
        x.voice(0, 4, 1);
        Due.is("count(6)", x.count(6), 6);
        Due.is("trace(1)", x.trace(1), 30);
    }

    // ---- promise 28: sheet

    @Says("SHEETS 0 .. 3 are rows of 8, 16, 32 bits")
    static void promise28_sheetBeyond() {
        Edges.refused("sheet(-1, 8, 1)", Due.BEYOND, x -> x.sheet(-1, 8, 1));
        Edges.refused("sheet(MIN, 8, 1)", Due.BEYOND, x -> x.sheet(Edges.MIN, 8, 1));
        Edges.refused("sheet(4, 8, 1)", Due.BEYOND, x -> x.sheet(4, 8, 1));
        Edges.refused("sheet(MAX, 8, 1)", Due.BEYOND, x -> x.sheet(Edges.MAX, 8, 1));
        Edges.refused("sheet(4, 0, 1)", Due.BEYOND, x -> x.sheet(4, 0, 1));
    }

    @Says("of so many bits (8, 16, 32; 0: it is missing, n doesn't matter): 1. BEYOND.")
    static void promise28_bitsBeyond() {
        for (int bits : new int[] {Edges.MIN, -32, -8, -1, 1, 7, 9, 15, 17, 24, 31, 33, 64, Edges.MAX}) {
            Edges.refused("sheet(0, " + bits + ", 1)", Due.BEYOND, x -> x.sheet(0, bits, 1));
        }
    }

    @Says("STATE: n is below 0 (ahead of BEYOND of n).")
    static void promise28_nBelow0() {
        Edges.refused("sheet(0, 8, -1)", Due.STATE, x -> x.sheet(0, 8, -1));
        Edges.refused("sheet(1, 16, -1)", Due.STATE, x -> x.sheet(1, 16, -1));
        Edges.refused("sheet(3, 32, -41)", Due.STATE, x -> x.sheet(3, 32, -41));
        Edges.refused("sheet(3, 32, MIN)", Due.STATE, x -> x.sheet(3, 32, Edges.MIN));
    }

    @Says("at most 40 numbers")
    static void promise28_nTooLarge() {
        Edges.refused("sheet(0, 8, 41)", Due.BEYOND, x -> x.sheet(0, 8, 41));
        Edges.refused("sheet(1, 16, 41)", Due.BEYOND, x -> x.sheet(1, 16, 41));
        Edges.refused("sheet(3, 32, 41)", Due.BEYOND, x -> x.sheet(3, 32, 41));
        Edges.refused("sheet(0, 8, MAX)", Due.BEYOND, x -> x.sheet(0, 8, Edges.MAX));
    }

    @Says("Each act tells its ERRORS in the order in which they are asked")
    static void promise28_beyondOfSheetAndBitsAheadOfState() {
        Edges.refused("sheet(4, 8, -1)", Due.BEYOND, x -> x.sheet(4, 8, -1));
        Edges.refused("sheet(-1, 8, -1)", Due.BEYOND, x -> x.sheet(-1, 8, -1));
        Edges.refused("sheet(0, 9, -1)", Due.BEYOND, x -> x.sheet(0, 9, -1));
        Edges.refused("sheet(0, -8, -1)", Due.BEYOND, x -> x.sheet(0, -8, -1));
    }

    @Says("at most 40 numbers")
    static void promise28_fortyNumbersOfEachSheet() {
        ShelfNights x = Edges.shelf(0);
        int[] bits = {8, 16, 32, 8};
        for (int sheet = 0; sheet < 4; sheet++) {
            Due.is("sheet(" + sheet + ", .., 40)", x.sheet(sheet, bits[sheet], 40), 1);
            Due.is("put(" + sheet + ", 39, 1)", x.put(sheet, 39, 1), 1);
            Due.is("put(" + sheet + ", 40, 1)", x.put(sheet, 40, 1), Due.BEYOND);
            Due.is("move of 40", x.move(sheet, 0, sheet, 0, 40), 40);
        }
    }

    @Says("A SHEET has n numbers, all 0")
    static void promise28_noNumbers() {
        ShelfNights x = Edges.shelf(0);
        Due.is("sheet(0, 8, 0)", x.sheet(0, 8, 0), 1);
        Due.is("reads(0), not missing", x.reads(0), 0);
        Due.is("judge(0, 0), not missing", x.judge(0, 0), 0);
        Due.is("put(0, 0, 1), not missing", x.put(0, 0, 1), Due.BEYOND);
        Due.is("move of none", x.move(0, 0, 0, 0, 0), 0);
    }

    @Says("A SHEET has n numbers, all 0")
    static void promise28_all0Again() {
        ShelfNights x = Edges.shelf(0);
        for (int bits : new int[] {8, 16, 32}) {
            Due.sheet(x, 2, bits, 1, 2, 3, 4, 5, 6);
            Due.is("sheet(2, " + bits + ", 6)", x.sheet(2, bits, 6), 1);
            shows(x, 2, 0, 0, 0, 0, 0, 0);
        }
        Due.sheet(x, 2, 8, 1, 2, 3, 4, 5, 6);
        x.sheet(2, 8, 2);
        x.sheet(2, 8, 6);
        shows(x, 2, 0, 0, 0, 0, 0, 0);
        Due.sheet(x, 2, 8, 1, 2, 3, 4, 5, 6);
        x.sheet(2, 0, 6);
        x.sheet(2, 8, 6);
        shows(x, 2, 0, 0, 0, 0, 0, 0);
    }

    @Says("A SHEET has n numbers, all 0")
    static void promise28_noOtherSheetHas() {
        ShelfNights x = Edges.shelf(0);
        Due.sheet(x, 1, 8, 7, 8);
        x.sheet(0, 16, 3);
        x.sheet(2, 32, 0);
        shows(x, 1, 7, 8);
        Due.is("reads(3), missing", x.reads(3), Due.NONE);
    }

    @Says("0: it is missing, n doesn't matter")
    static void promise28_missingWhateverN() {
        for (int n : new int[] {Edges.MIN, -1, 0, 40, 41, Edges.MAX}) {
            ShelfNights x = Edges.furnished();
            Due.is("sheet(0, 0, " + n + ")", x.sheet(0, 0, n), 1);
            Due.is("reads(0)", x.reads(0), Due.NONE);
            Due.is("sheet(3, 0, " + n + "), missing as it is", x.sheet(3, 0, n), 1);
        }
    }

    // ---- promise 29: put

    @Says("BEYOND: no such SHEET. NONE: it is missing. BEYOND: no such number.")
    static void promise29_noSuchSheet() {
        Edges.refused("put(-1, 0, 1)", Due.BEYOND, x -> x.put(-1, 0, 1));
        Edges.refused("put(MIN, 0, 1)", Due.BEYOND, x -> x.put(Edges.MIN, 0, 1));
        Edges.refused("put(4, 0, 1)", Due.BEYOND, x -> x.put(4, 0, 1));
        Edges.refused("put(MAX, 0, 1)", Due.BEYOND, x -> x.put(Edges.MAX, 0, 1));
    }

    @Says("BEYOND: no such SHEET. NONE: it is missing. BEYOND: no such number.")
    static void promise29_missing() {
        Edges.refused("put(3, 0, 1)", Due.NONE, x -> x.put(3, 0, 1));
        Edges.refused("put(3, -1, 1), ahead of no such number", Due.NONE, x -> x.put(3, -1, 1));
        Edges.refused("put(3, 40, 1), ahead of no such number", Due.NONE, x -> x.put(3, 40, 1));
    }

    @Says("BEYOND: no such SHEET. NONE: it is missing. BEYOND: no such number.")
    static void promise29_noSuchNumber() {
        Edges.refused("put(0, -1, 1)", Due.BEYOND, x -> x.put(0, -1, 1));
        Edges.refused("put(0, MIN, 1)", Due.BEYOND, x -> x.put(0, Edges.MIN, 1));
        Edges.refused("put(0, 6, 1) of six", Due.BEYOND, x -> x.put(0, 6, 1));
        Edges.refused("put(2, 3, 1) of three", Due.BEYOND, x -> x.put(2, 3, 1));
        Edges.refused("put(0, MAX, 1)", Due.BEYOND, x -> x.put(0, Edges.MAX, 1));
    }

    @Says("Number i of a SHEET becomes v (its lowest bits): 1.")
    static void promise29_firstAndLastNumber() {
        ShelfNights x = Edges.furnished();
        Due.is("put(0, 0, 70)", x.put(0, 0, 70), 1);
        Due.is("put(0, 5, 75)", x.put(0, 5, 75), 1);
        shows(x, 0, 70, 2, 3, 4, 5, 75);
    }

    @Says("becomes v (its lowest bits): 1.")
    static void promise29_theLowest8Bits() {
        ShelfNights x = Edges.shelf(0);
        Due.sheet(x, 0, 8, 256, 256 + 99, -256 + 7, 1 << 31 | 8, 65536 + 9, Edges.MIN);
        shows(x, 0, 0, 99, 7, 8, 9, 0);
        Due.sheet(x, 0, 8, 100);
        Due.is("100 is no PAGE", x.reads(0), 0);
        Due.sheet(x, 0, 8, 255);
        Due.is("255 is no PAGE", x.reads(0), 0);
        Due.sheet(x, 0, 8, -1);
        Due.is("-1 is no PAGE", x.reads(0), 0);
        Due.sheet(x, 0, 8, 128);
        Due.is("128 is no PAGE", x.reads(0), 0);
    }

    @Says("becomes v (its lowest bits): 1.")
    static void promise29_theLowest16Bits() {
        ShelfNights x = Edges.shelf(0);
        Due.sheet(x, 0, 16, 65536, 65536 + 99, -65536 + 7, 1 << 31 | 8, 1 << 24 | 9, Edges.MIN);
        shows(x, 0, 0, 99, 7, 8, 9, 0);
        Due.sheet(x, 0, 16, 256);
        Due.is("256 is no PAGE", x.reads(0), 0);
        Due.sheet(x, 0, 16, 32768);
        Due.is("32768 is no PAGE", x.reads(0), 0);
        Due.sheet(x, 0, 16, -1);
        Due.is("-1 is no PAGE", x.reads(0), 0);
    }

    @Says("becomes v (its lowest bits): 1.")
    static void promise29_all32Bits() {
        ShelfNights x = Edges.shelf(0);
        Due.sheet(x, 0, 32, 0, 99);
        shows(x, 0, 0, 99);
        for (int v : new int[] {100, 256, 65536, 1 << 24, -1, Edges.MIN, Edges.MAX}) {
            Due.sheet(x, 0, 32, v);
            Due.is(v + " is no PAGE", x.reads(0), 0);
        }
    }

    // ---- promise 30: move

    @Says("BEYOND: no such SHEET. NONE: one is missing. KIND: they are of unlike bits.")
    static void promise30_noSuchSheet() {
        Edges.refused("move(-1, 0, 0, 0, 1)", Due.BEYOND, x -> x.move(-1, 0, 0, 0, 1));
        Edges.refused("move(4, 0, 0, 0, 1)", Due.BEYOND, x -> x.move(4, 0, 0, 0, 1));
        Edges.refused("move(MIN, 0, 0, 0, 1)", Due.BEYOND, x -> x.move(Edges.MIN, 0, 0, 0, 1));
        Edges.refused("move(0, 0, -1, 0, 1)", Due.BEYOND, x -> x.move(0, 0, -1, 0, 1));
        Edges.refused("move(0, 0, 4, 0, 1)", Due.BEYOND, x -> x.move(0, 0, 4, 0, 1));
        Edges.refused("move(0, 0, MAX, 0, 1)", Due.BEYOND, x -> x.move(0, 0, Edges.MAX, 0, 1));
    }

    @Says("BEYOND: no such SHEET. NONE: one is missing. KIND: they are of unlike bits.")
    static void promise30_oneIsMissing() {
        Edges.refused("move(3, 0, 0, 0, 1)", Due.NONE, x -> x.move(3, 0, 0, 0, 1));
        Edges.refused("move(0, 0, 3, 0, 1)", Due.NONE, x -> x.move(0, 0, 3, 0, 1));
        Edges.refused("move(3, 0, 3, 0, 0)", Due.NONE, x -> x.move(3, 0, 3, 0, 0));
    }

    @Says("BEYOND: no such SHEET. NONE: one is missing. KIND: they are of unlike bits.")
    static void promise30_unlikeBits() {
        Edges.refused("move(0, 0, 1, 0, 1)", Due.KIND, x -> x.move(0, 0, 1, 0, 1));
        Edges.refused("move(1, 0, 0, 0, 0), of none", Due.KIND, x -> x.move(1, 0, 0, 0, 0));
        Edges.refused(RestEdgesTest::withWideSheet, "move(3, 0, 1, 0, 1)", Due.KIND, x -> x.move(3, 0, 1, 0, 1));
    }

    private static ShelfNights withWideSheet() {
        ShelfNights x = Edges.furnished();
        Due.sheet(x, 3, 32, 1, 2);
        return x;
    }

    @Says("BEYOND: n, i, or j is below 0, or they don't stand there.")
    static void promise30_below0() {
        Edges.refused("move(0, 0, 2, 0, -1)", Due.BEYOND, x -> x.move(0, 0, 2, 0, -1));
        Edges.refused("move(0, 0, 2, 0, MIN)", Due.BEYOND, x -> x.move(0, 0, 2, 0, Edges.MIN));
        Edges.refused("move(0, -1, 2, 0, 1)", Due.BEYOND, x -> x.move(0, -1, 2, 0, 1));
        Edges.refused("move(0, MIN, 2, 0, 1)", Due.BEYOND, x -> x.move(0, Edges.MIN, 2, 0, 1));
        Edges.refused("move(0, 0, 2, -1, 1)", Due.BEYOND, x -> x.move(0, 0, 2, -1, 1));
        Edges.refused("move(0, 0, 2, MIN, 1)", Due.BEYOND, x -> x.move(0, 0, 2, Edges.MIN, 1));
        Edges.refused("move(0, -1, 2, 0, 0), of none", Due.BEYOND, x -> x.move(0, -1, 2, 0, 0));
        Edges.refused("move(0, 0, 2, -1, 0), of none", Due.BEYOND, x -> x.move(0, 0, 2, -1, 0));
        Edges.refused("move(0, 3, 2, 3, -1)", Due.BEYOND, x -> x.move(0, 3, 2, 3, -1));
    }

    @Says("BEYOND: n, i, or j is below 0, or they don't stand there.")
    static void promise30_theyDontStandThere() {
        Edges.refused("move(2, 0, 0, 0, 4), of three", Due.BEYOND, x -> x.move(2, 0, 0, 0, 4));
        Edges.refused("move(2, 1, 0, 0, 3), of three", Due.BEYOND, x -> x.move(2, 1, 0, 0, 3));
        Edges.refused("move(2, 3, 0, 0, 1), of three", Due.BEYOND, x -> x.move(2, 3, 0, 0, 1));
        Edges.refused("move(0, 0, 2, 0, 4), to three", Due.BEYOND, x -> x.move(0, 0, 2, 0, 4));
        Edges.refused("move(0, 0, 2, 1, 3), to three", Due.BEYOND, x -> x.move(0, 0, 2, 1, 3));
        Edges.refused("move(0, 0, 2, 3, 1), to three", Due.BEYOND, x -> x.move(0, 0, 2, 3, 1));
        Edges.refused("move(0, 7, 0, 0, 0), of none", Due.BEYOND, x -> x.move(0, 7, 0, 0, 0));
        Edges.refused("move(0, 0, 0, 7, 0), of none", Due.BEYOND, x -> x.move(0, 0, 0, 7, 0));
    }

    @Says("BEYOND: n, i, or j is below 0, or they don't stand there.")
    static void promise30_whereTheSumWouldWrap() {
        Edges.refused("move(0, MAX, 0, 0, MAX)", Due.BEYOND, x -> x.move(0, Edges.MAX, 0, 0, Edges.MAX));
        Edges.refused("move(0, 1, 0, 1, MAX)", Due.BEYOND, x -> x.move(0, 1, 0, 1, Edges.MAX));
        Edges.refused("move(0, MAX, 0, 0, 1)", Due.BEYOND, x -> x.move(0, Edges.MAX, 0, 0, 1));
        Edges.refused("move(0, 0, 0, MAX, 1)", Due.BEYOND, x -> x.move(0, 0, 0, Edges.MAX, 1));
    }

    @Says("Each act tells its ERRORS in the order in which they are asked")
    static void promise30_errorsInOrder() {
        Edges.refused("move(4, 0, 3, 0, -1)", Due.BEYOND, x -> x.move(4, 0, 3, 0, -1));
        Edges.refused("move(3, 0, 4, 0, -1)", Due.BEYOND, x -> x.move(3, 0, 4, 0, -1));
        Edges.refused("move(3, -1, 1, 0, 1)", Due.NONE, x -> x.move(3, -1, 1, 0, 1));
        Edges.refused("move(0, 0, 3, 0, -1)", Due.NONE, x -> x.move(0, 0, 3, 0, -1));
        Edges.refused("move(0, 0, 1, 0, -1)", Due.KIND, x -> x.move(0, 0, 1, 0, -1));
        Edges.refused("move(0, 9, 1, 9, 9)", Due.KIND, x -> x.move(0, 9, 1, 9, 9));
    }

    @Says("n numbers of a SHEET, from number i on, come to another one (or the same), from its number j on")
    static void promise30_allOfASheetAndNone() {
        ShelfNights x = Edges.furnished();
        Due.is("move of all three", x.move(2, 0, 0, 3, 3), 3);
        shows(x, 0, 1, 2, 3, 41, 42, 43);
        shows(x, 2, 41, 42, 43);
        Due.is("move of none", x.move(0, 0, 2, 0, 0), 0);
        Due.is("move of none from the end to the end", x.move(0, 6, 2, 3, 0), 0);
        shows(x, 2, 41, 42, 43);
        Due.is("move of the last to the last", x.move(0, 5, 2, 2, 1), 1);
        Due.is("move of the first to the first", x.move(0, 0, 2, 0, 1), 1);
        shows(x, 2, 1, 42, 43);
    }

    @Says("from its number j on, as they all were: n.")
    static void promise30_overItselfAsTheyWere() {
        ShelfNights x = Edges.furnished();
        Due.is("move up", x.move(0, 0, 0, 1, 5), 5);
        shows(x, 0, 1, 1, 2, 3, 4, 5);
        x = Edges.furnished();
        Due.is("move down", x.move(0, 1, 0, 0, 5), 5);
        shows(x, 0, 2, 3, 4, 5, 6, 6);
        x = Edges.furnished();
        Due.is("move where they are", x.move(0, 0, 0, 0, 6), 6);
        shows(x, 0, 1, 2, 3, 4, 5, 6);
    }

    // ---- promise 31: reads

    @Says("BEYOND: no such SHEET. NONE: it is missing. ## Promise 32")
    static void promise31_noSuchSheetOrMissing() {
        Edges.refused("reads(-1)", Due.BEYOND, x -> x.reads(-1));
        Edges.refused("reads(MIN)", Due.BEYOND, x -> x.reads(Edges.MIN));
        Edges.refused("reads(4)", Due.BEYOND, x -> x.reads(4));
        Edges.refused("reads(MAX)", Due.BEYOND, x -> x.reads(Edges.MAX));
        Edges.refused("reads(3)", Due.NONE, x -> x.reads(3));
        Edges.refused(ShelfNights::new, "reads(0) without BOOKS", Due.NONE, x -> x.reads(0));
    }

    @Says("or for which there is no BOOK.")
    static void promise31_withoutBooks() {
        ShelfNights x = new ShelfNights();
        Due.sheet(x, 0, 8, 1, 2);
        Due.is("reads(0)", x.reads(0), 0);
        noErrorIsTold(x);
        x.book(0);
        Due.is("pageOf(0, 0)", x.pageOf(0, 0), 0);
    }

    @Says("or for which there is no BOOK.")
    static void promise31_moreNumbersThanPages() {
        ShelfNights x = Edges.shelf(0, 0, 0, 0, 0, 0);
        x.sheet(0, 8, 40);
        for (int i = 0; i < 40; i++) {
            x.put(0, i, 50 + i);
        }
        Due.is("reads(0) of six BOOKS", x.reads(0), 36);
        for (int i = 0; i < 36; i++) {
            Due.is("PAGE " + i % 6 + " of BOOK " + i / 6, x.pageOf(i / 6, i % 6), 50 + i);
        }
        ShelfNights one = Edges.shelf(0);
        Due.sheet(one, 0, 8, 1, 2, 3, 4, 5, 6, 7);
        Due.is("reads(0) of one BOOK", one.reads(0), 6);
        Due.is("pageOf(0, 5)", one.pageOf(0, 5), 6);
        one.book(0);
        Due.is("the next BOOK", one.pageOf(1, 0), 0);
    }

    @Says("Numbers of a SHEET become PAGES 0, 1, .. of BOOK 0, then of BOOK 1, ..")
    static void promise31_fewerNumbersThanPages() {
        ShelfNights x = Edges.shelf(0);
        Due.pages(x, 0, 1, 2, 3, 4, 5, 6);
        Due.sheet(x, 2, 8, 41, 42, 43);
        Due.is("reads(2)", x.reads(2), 3);
        int[] due = {41, 42, 43, 4, 5, 6};
        for (int page = 0; page < 6; page++) {
            Due.is("pageOf(0, " + page + ")", x.pageOf(0, page), due[page]);
        }
    }

    @Says("A SHEET has n numbers")
    static void promise31_noNumbers() {
        ShelfNights x = Edges.furnished();
        x.sheet(0, 8, 0);
        ShelfNights y = Edges.furnished();
        y.sheet(0, 8, 0);
        Due.is("reads(0)", x.reads(0), 0);
        Due.is("all", Edges.dump(x), Edges.dump(y));
    }

    @Says("how many, up to the first that is not 0 to 99 (no ERROR then)")
    static void promise31_leastAndGreatestNumber() {
        ShelfNights x = Edges.shelf(0);
        Due.sheet(x, 0, 32, 0, 99, 0, 99, 99, 0);
        shows(x, 0, 0, 99, 0, 99, 99, 0);
    }

    @Says("how many, up to the first that is not 0 to 99 (no ERROR then)")
    static void promise31_upToTheFirstThatIsNot() {
        for (int v : new int[] {100, -1, Edges.MIN, Edges.MAX}) {
            ShelfNights x = Edges.shelf(0, 0);
            Due.sheet(x, 0, 32, 11, 12, 13, 14, 15, 16, 17, v, 19);
            Due.is("reads(0) up to " + v, x.reads(0), 7);
            Due.is("pageOf(0, 5)", x.pageOf(0, 5), 16);
            Due.is("pageOf(1, 0)", x.pageOf(1, 0), 17);
            Due.is("pageOf(1, 1)", x.pageOf(1, 1), 0);
            Due.is("pageOf(1, 2), behind it", x.pageOf(1, 2), 0);
            noErrorIsTold(x);
        }
    }

    @Says("how many, up to the first that is not 0 to 99 (no ERROR then)")
    static void promise31_theVeryFirstIsNot() {
        ShelfNights x = Edges.shelf(0);
        Due.pages(x, 0, 1, 2);
        Due.sheet(x, 0, 16, 100, 5);
        Due.is("reads(0)", x.reads(0), 0);
        Due.is("pageOf(0, 0)", x.pageOf(0, 0), 1);
        Due.is("pageOf(0, 1)", x.pageOf(0, 1), 2);
    }

    // ---- promise 32: judge

    @Says("BEYOND: no such SHEET, BOOK. NONE: it is missing.")
    static void promise32_noSuchSheet() {
        Edges.refused("judge(-1, 0)", Due.BEYOND, x -> x.judge(-1, 0));
        Edges.refused("judge(MIN, 0)", Due.BEYOND, x -> x.judge(Edges.MIN, 0));
        Edges.refused("judge(4, 0)", Due.BEYOND, x -> x.judge(4, 0));
        Edges.refused("judge(MAX, 0)", Due.BEYOND, x -> x.judge(Edges.MAX, 0));
    }

    @Says("BEYOND: no such SHEET, BOOK. NONE: it is missing.")
    static void promise32_noSuchBook() {
        Edges.refused("judge(0, -1)", Due.BEYOND, x -> x.judge(0, -1));
        Edges.refused("judge(0, MIN)", Due.BEYOND, x -> x.judge(0, Edges.MIN));
        Edges.refused("judge(0, 3) of three", Due.BEYOND, x -> x.judge(0, 3));
        Edges.refused("judge(0, MAX)", Due.BEYOND, x -> x.judge(0, Edges.MAX));
    }

    @Says("BEYOND: no such SHEET, BOOK. NONE: it is missing.")
    static void promise32_missingBehindBeyond() {
        Edges.refused("judge(3, 0)", Due.NONE, x -> x.judge(3, 0));
        Edges.refused("judge(3, 3) of three", Due.BEYOND, x -> x.judge(3, 3));
        Edges.refused("judge(3, -1)", Due.BEYOND, x -> x.judge(3, -1));
    }

    private static int judged(int... numbers) {
        ShelfNights x = Edges.shelf(0, 0, 0);
        Due.pages(x, 0, 9, 9, 9, 9, 9, 9);
        Due.pages(x, 1, 10, 20, 30, 40, 50, 60);
        Due.pages(x, 2, 9, 9, 9, 9, 9, 9);
        Due.sheet(x, 0, 16, numbers);
        return x.judge(0, 1);
    }

    @Says("-1: all are.")
    static void promise32_allAre() {
        Due.is("judge", judged(10, 20, 30, 40, 50, 60), -1);
    }

    @Says("-1: all are.")
    static void promise32_theLastOfSixBooks() {
        ShelfNights x = Edges.shelf(0, 0, 0, 0, 0, 0);
        Due.pages(x, 5, 1, 2, 3, 4, 5, 6);
        Due.sheet(x, 3, 8, 1, 2, 3, 4, 5, 6);
        Due.is("judge(3, 5)", x.judge(3, 5), -1);
        Due.sheet(x, 3, 8, 1, 2, 3, 4, 5, 6, 0, 0);
        Due.is("judge(3, 5), two too many", x.judge(3, 5), 6);
        Due.is("judge(3, 4)", x.judge(3, 4), 0);
    }

    @Says("the first that isn't so")
    static void promise32_theFirstAndTheLastIsnt() {
        Due.is("judge, the first", judged(11, 20, 30, 40, 50, 60), 0);
        Due.is("judge, the last", judged(10, 20, 30, 40, 50, 61), 5);
        Due.is("judge, the first of two", judged(10, 20, 31, 40, 51, 60), 2);
    }

    @Says("(one that lacks, or is too many, too)")
    static void promise32_oneThatLacks() {
        Due.is("judge of 5 numbers", judged(10, 20, 30, 40, 50), 5);
        Due.is("judge of 1 number", judged(10), 1);
        Due.is("judge of no numbers", judged(), 0);
        Due.is("judge of 5 numbers, one isn't so ahead", judged(10, 20, 30, 41, 50), 3);
    }

    @Says("(one that lacks, or is too many, too)")
    static void promise32_oneThatIsTooMany() {
        Due.is("judge of 7 numbers", judged(10, 20, 30, 40, 50, 60, 0), 6);
        Due.is("judge of 40 numbers", judged(java.util.Arrays.copyOf(new int[] {10, 20, 30, 40, 50, 60}, 40)), 6);
        Due.is("judge of 7 numbers, one isn't so ahead", judged(10, 20, 30, 40, 50, 61, 0), 5);
    }

    @Says("Numbers of a SHEET are PAGES 0, 1, .. of a BOOK")
    static void promise32_numbersThatAreNoPages() {
        Due.is("judge of 266", judged(266, 20, 30, 40, 50, 60), 0);
        Due.is("judge of -1", judged(10, 20, 30, 40, 50, -1), 5);
    }

    // ---- promise 33: image

    @Says("in place of one ahead: how often that was done.")
    static void promise33_howOften() {
        ShelfNights x = new ShelfNights();
        for (int i = 1; i <= 5; i++) {
            Due.is("image()", x.image(), i);
        }
    }

    @Says("is kept as an IMAGE, in place of one ahead")
    static void promise33_inPlaceOfOneAhead() {
        ShelfNights x = Edges.shelf(0);
        x.image();
        x.nights(3);
        x.page(0, 0, 8);
        x.image();
        x.nights(2);
        x.page(0, 0, 9);
        Due.is("restore()", x.restore(), 3);
        Due.is("pageOf(0, 0)", x.pageOf(0, 0), 8);
    }

    @Says("All (but SHEETS, THE TRACE, what told() tells, and how often this was done) is kept")
    static void promise33_allIsKept() {
        ShelfNights x = Edges.furnished();
        x.image();
        wearOut(x);
        x.restore();
        for (int sheet = 0; sheet < 4; sheet++) {
            x.sheet(sheet, 0, 0);
        }
        x.voice(0, 0, 0);
        ShelfNights y = Edges.furnished();
        y.image();
        for (int sheet = 0; sheet < 4; sheet++) {
            y.sheet(sheet, 0, 0);
        }
        y.voice(0, 0, 0);
        Due.is("all but those", Edges.dump(x), Edges.dump(y));
    }

    private static void wearOut(ShelfNights x) {
        for (int book = 0; book < 3; book++) {
            x.become(book, 10 * (2 - book) + 1);
            x.glass(book, 1 - x.ofBook(book, 3));
            for (int page = 0; page < 6; page++) {
                x.page(book, page, 99 - x.pageOf(book, page));
            }
        }
        x.stand(0, 0);
        x.stand(2, 1);
        x.book(44);
        x.text(0);
        Due.textOf(x, 0, "7");
        Due.textOf(x, 1, "8");
        Due.feed(x, "((o");
        x.nights(50);
        x.seed(-7);
        x.check();
        for (int i = 0; i < 20; i++) {
            x.tell(i);
        }
    }

    @Says("All (but SHEETS, THE TRACE, what told() tells, and how often this was done) is kept")
    static void promise33_sheetsAreNotKept() {
        ShelfNights x = Edges.furnished();
        x.image();
        x.put(0, 0, 88);
        x.sheet(1, 0, 0);
        Due.sheet(x, 3, 32, 77);
        x.restore();
        Due.is("reads(1), missing", x.reads(1), Due.NONE);
        shows(x, 3, 77);
        shows(x, 0, 88, 2, 3, 4, 5, 6);
    }

    @Says("All (but SHEETS, THE TRACE, what told() tells, and how often this was done) is kept")
    static void promise33_theTraceIsNotKept() {
        ShelfNights x = Edges.furnished();
        x.image();
        x.voice(0, 1, 1);
        x.restore();
        Due.is("count(6)", x.count(6), 2);
        Due.is("trace(0)", x.trace(0), 11);
    }

    @Says("All (but SHEETS, THE TRACE, what told() tells, and how often this was done) is kept")
    static void promise33_whatIsToldIsNotKept() {
        ShelfNights x = new ShelfNights();
        x.at(0);
        x.image();
        x.at(0);
        x.trace(0);
        x.restore();
        Due.is("told(1)", x.told(1), 2);
        Due.is("told(2)", x.told(2), 1);
    }

    @Says("All (but SHEETS, THE TRACE, what told() tells, and how often this was done) is kept")
    static void promise33_howOftenIsNotKept() {
        ShelfNights x = new ShelfNights();
        x.image();
        x.image();
        x.restore();
        Due.is("image()", x.image(), 3);
        x.restore();
        x.restore();
        Due.is("image()", x.image(), 4);
    }

    @Says("All (but SHEETS, THE TRACE, what told() tells, and how often this was done) is kept")
    static void promise33_theNumbersThatWaitAreKept() {
        ShelfNights x = twentyWait();
        x.image();
        x.check();
        for (int i = 0; i < 20; i++) {
            x.tell(-1);
        }
        x.restore();
        Due.is("count(5)", x.count(5), 20);
        Due.is("check()", x.check(), 0);
        x.tell(-1);
        x.restore();
        Due.is("check(), again", x.check(), 0);
    }

    @Says("All (but SHEETS, THE TRACE, what told() tells, and how often this was done) is kept")
    static void promise33_theTapeIsKept() {
        ShelfNights x = new ShelfNights();
        Due.feed(x, "o*3");
        x.image();
        x.text(0);
        Due.feed(x, "(((");
        x.restore();
        Due.is("count(4)", x.count(4), 3);
        Due.is("law(0, 3, 6, 9), no TEXT again", x.law(0, 3, 6, 9), 6);
        Due.is("text(0)", x.text(0), 1);
        Due.is("law(0, 3, 6, 9)", x.law(0, 3, 6, 9), 9);
    }

    @Says("All (but SHEETS, THE TRACE, what told() tells, and how often this was done) is kept")
    static void promise33_ofAnEmptyShelf() {
        ShelfNights x = new ShelfNights();
        x.image();
        ShelfNights y = new ShelfNights();
        y.image();
        for (int book = 0; book < 6; book++) {
            x.book(0);
        }
        Due.textOf(x, 0, "5");
        Due.textOf(x, 1, "5");
        x.tell(0);
        Due.feed(x, "ooooo");
        x.nights(200);
        Due.is("restore()", x.restore(), 0);
        Due.is("all", Edges.dump(x), Edges.dump(y));
    }

    // ---- promise 34: restore

    @Says("NONE: there is none. ## Promise 35")
    static void promise34_thereIsNone() {
        Edges.refused(ShelfNights::new, "restore()", Due.NONE, x -> x.restore());
        Edges.refused(() -> Edges.shelfBy("o", "p", 23), "restore()", Due.NONE, x -> x.restore());
    }

    @Says("All is as the IMAGE has it, which stays: NIGHT.")
    static void promise34_theImageStays() {
        ShelfNights x = Edges.shelf(0);
        x.page(0, 0, 5);
        x.nights(7);
        x.image();
        for (int time = 0; time < 3; time++) {
            x.page(0, 0, 50 + time);
            x.nights(9);
            x.become(0, 69);
            Due.is("restore()", x.restore(), 7);
            Due.is("pageOf(0, 0)", x.pageOf(0, 0), 5);
            Due.is("KIND", x.ofBook(0, 0), 0);
        }
    }

    @Says("All is as the IMAGE has it, which stays: NIGHT.")
    static void promise34_twiceAtOnce() {
        ShelfNights x = Edges.furnished();
        Due.is("restore()", x.restore(), 7);
        Due.is("restore()", x.restore(), 7);
        ShelfNights y = Edges.furnished();
        y.restore();
        Due.is("all", Edges.dump(x), Edges.dump(y));
    }

    @Says("All is as the IMAGE has it, which stays: NIGHT.")
    static void promise34_leastAndGreatestNight() {
        ShelfNights x = new ShelfNights();
        x.image();
        Edges.atNight(x, 9999);
        Due.is("restore()", x.restore(), 0);
        Edges.atNight(x, 9999);
        x.image();
        x.restore();
        Due.is("nights(1)", x.nights(1), Due.STATE);
        Due.is("restore()", x.restore(), 9999);
    }

    // ---- promise 35: tell

    private static ShelfNights twentyWait() {
        ShelfNights x = Edges.shelfBy("o+1", "a=1", 0);
        for (int i = 1; i <= 20; i++) {
            x.tell(senseBehind(i));
        }
        return x;
    }

    /** Of the only BOOK by o+1 and a=1, from NIGHT 0 and PAGES 0 on: PAGES 0 to 4 become 1, then 2, one a NIGHT. */
    private static int senseBehind(int night) {
        return night <= 5 ? night : night == 6 ? 5 : Math.max(0, 11 - night);
    }

    @Says("One more number waits: how many.")
    static void promise35_upToTwenty() {
        ShelfNights x = new ShelfNights();
        for (int i = 1; i <= 20; i++) {
            Due.is("tell, the " + i + "th", x.tell(0), i);
            Due.is("count(5)", x.count(5), i);
        }
    }

    @Says("FULL: 20 wait.")
    static void promise35_theTwentyFirstIsFull() {
        Edges.refused(RestEdgesTest::twentyWait, "tell(0)", Due.FULL, x -> x.tell(0));
        Edges.refused(RestEdgesTest::twentyWait, "tell(MIN)", Due.FULL, x -> x.tell(Edges.MIN));
    }

    @Says("(none do then)")
    static void promise35_thereIsRoomBehindACheck() {
        ShelfNights x = twentyWait();
        x.check();
        Due.is("tell(0)", x.tell(0), 1);
    }

    @Says("One more number waits: how many.")
    static void promise35_anyNumber() {
        for (int v : FAR) {
            ShelfNights x = new ShelfNights();
            Due.is("tell(" + v + ")", x.tell(v), 1);
            Due.is("check()", x.check(), v == 0 ? 0 : 1);
            noErrorIsTold(x);
        }
    }

    // ---- promise 36: check

    @Says("The numbers that wait (none do then) are SENSE of all together behind 1, 2, .. NIGHTS: 0")
    static void promise36_noneWaits() {
        Due.is("check()", new ShelfNights().check(), 0);
        Due.is("check()", Edges.shelfBy("o+1", "1", 0).check(), 0);
    }

    @Says("The numbers that wait (none do then) are SENSE of all together behind 1, 2, .. NIGHTS: 0")
    static void promise36_twentyAreSo() {
        ShelfNights x = twentyWait();
        Due.is("check()", x.check(), 0);
        Due.is("count(5)", x.count(5), 0);
        Due.is("check(), none waits", x.check(), 0);
    }

    @Says("else 1 and the place (from 0) of the first that isn't so.")
    static void promise36_oneOfTwentyIsnt() {
        for (int wrong = 1; wrong <= 20; wrong++) {
            ShelfNights x = Edges.shelfBy("o+1", "a=1", 0);
            for (int i = 1; i <= 20; i++) {
                x.tell(senseBehind(i) + (i == wrong ? 1 : 0));
            }
            Due.is("check(), the " + wrong + "th isn't so", x.check(), wrong);
        }
    }

    @Says("else 1 and the place (from 0) of the first that isn't so.")
    static void promise36_theFirstOfSeveral() {
        ShelfNights x = Edges.shelfBy("o+1", "a=1", 0);
        x.tell(1);
        x.tell(9);
        x.tell(3);
        x.tell(9);
        Due.is("check()", x.check(), 2);
    }

    @Says("(none do then)")
    static void promise36_noneWaitsThenThoughOneIsntSo() {
        ShelfNights x = Edges.shelfBy("o+1", "a=1", 0);
        x.tell(9);
        x.tell(9);
        Due.is("check()", x.check(), 1);
        Due.is("count(5)", x.count(5), 0);
        Due.is("check()", x.check(), 0);
    }

    @Says("are SENSE of all together behind 1, 2, .. NIGHTS")
    static void promise36_withoutBooks() {
        ShelfNights x = new ShelfNights();
        x.tell(0);
        x.tell(0);
        x.tell(1);
        Due.is("check()", x.check(), 3);
    }

    @Says("(All this is only thought, NIGHT beyond 9999, too.)")
    static void promise36_onlyThoughtBeyondNight9999() {
        ShelfNights x = Edges.furnished();
        ShelfNights y = Edges.furnished();
        x.check();
        y.check();
        x.check();
        Due.is("all", Edges.dump(x), Edges.dump(y));
        ShelfNights z = Edges.atNight(Edges.shelfBy("o+1", "a=1", 0), 9999);
        Due.pages(z, 0, 9, 9, 9, 0, 0, 0);
        int[] due = {1, 2, 2, 2, 2, 2, 1, 0};
        for (int sense : due) {
            z.tell(sense);
        }
        Due.is("check() at 9999", z.check(), 0);
        Due.is("count(1)", z.count(1), 9999);
    }

    // ---- promise 37: count

    @Says("6 BODIES in THE TRACE, 7 z (any number). BEYOND.")
    static void promise37_whatBeyond() {
        Edges.refused("count(-1)", Due.BEYOND, x -> x.count(-1));
        Edges.refused("count(MIN)", Due.BEYOND, x -> x.count(Edges.MIN));
        Edges.refused("count(8)", Due.BEYOND, x -> x.count(8));
        Edges.refused("count(MAX)", Due.BEYOND, x -> x.count(Edges.MAX));
    }

    @Says("0 BOOKS, 1 NIGHT, 2 SENSE of all together, 3 how many are under GLASS, 4 bytes of THE TAPE")
    static void promise37_mostOfAll() {
        ShelfNights x = Edges.shelfBy(null, "1", 60, 60, 60, 60, 60, 60);
        Edges.atNight(x, 9999);
        for (int book = 0; book < 6; book++) {
            x.glass(book, 1);
        }
        for (int i = 0; i < 50; i++) {
            x.feed('o', 1);
        }
        for (int i = 0; i < 20; i++) {
            x.tell(i);
        }
        x.voice(5, 3, 0);
        x.seed(Edges.MAX);
        int[] due = {6, 9999, 30, 6, 50, 20, 9, Edges.MAX};
        for (int what = 0; what < 8; what++) {
            Due.is("count(" + what + ")", x.count(what), due[what]);
        }
    }

    @Says("7 z (any number).")
    static void promise37_zThatLooksLikeAnErrorIsNone() {
        ShelfNights x = new ShelfNights();
        for (int v : FAR) {
            x.seed(v);
            Due.is("count(7)", x.count(7), v);
        }
        noErrorIsTold(x);
    }

    // ---- promise 38: told

    @Says("BEYOND: another k (counted, too).")
    static void promise38_anotherK() {
        Edges.refused("told(0)", Due.BEYOND, x -> x.told(0));
        Edges.refused("told(6)", Due.BEYOND, x -> x.told(6));
        Edges.refused("told(-1)", Due.BEYOND, x -> x.told(-1));
        Edges.refused("told(MIN)", Due.BEYOND, x -> x.told(Edges.MIN));
        Edges.refused("told(MAX)", Due.BEYOND, x -> x.told(Edges.MAX));
    }

    @Says("BEYOND: another k (counted, too).")
    static void promise38_anotherKIsCountedToo() {
        ShelfNights x = new ShelfNights();
        for (int i = 1; i <= 4; i++) {
            x.told(0);
            Due.is("told(1)", x.told(1), i);
        }
    }

    @Says("LOW is -1000000000; LOW - 1 BEYOND, LOW - 2 NONE, LOW - 3 STATE, LOW - 4 FULL, LOW - 5 KIND.")
    static void promise38_eachErrorByItself() {
        ShelfNights x = Edges.shelf(0, 0, 0, 0, 0, 0);
        Due.is("at(6)", x.at(6), -1000000001);
        Due.is("trace(0)", x.trace(0), -1000000002);
        Due.is("restore()", x.restore(), -1000000002);
        for (int i = 0; i < 3; i++) {
            Due.is("sheet(0, 8, -1)", x.sheet(0, 8, -1), -1000000003);
        }
        for (int i = 0; i < 4; i++) {
            Due.is("book(0)", x.book(0), -1000000004);
        }
        for (int i = 0; i < 5; i++) {
            Due.is("as(0, 1)", x.as(0, 1), -1000000005);
        }
        for (int k = 1; k <= 5; k++) {
            Due.is("told(" + k + ")", x.told(k), k);
        }
    }

    @Says("How many acts have answered an ERROR LOW - k (k 1 .. 5)")
    static void promise38_whatOnlyLooksLikeAnErrorIsNotCounted() {
        ShelfNights x = Edges.shelfBy(null, "a", 0);
        for (int v : new int[] {Due.BEYOND, Due.NONE, Due.STATE, Due.FULL, Due.KIND}) {
            x.seed(v);
            x.count(7);
            x.voice(0, 0, v);
            x.law(1, v, 0, 0);
        }
        x.seed(0);
        noErrorIsTold(x);
    }
}
