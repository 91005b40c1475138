/** Promises 1 to 10 at their boundaries. */
final class BooksEdgesTest {
    public static void main(String[] args) throws Exception {
        Edges.run(BooksEdgesTest.class, 1, 10);
    }

    private static ShelfNights six() {
        return Edges.shelf(0, 11, 22, 33, 44, 55);
    }

    // ---- promise 1: a new object

    @Says("All as at first; no BOOKS.")
    static void promise01_noBooks() {
        Due.is("count(0)", new ShelfNights().count(0), 0);
        Due.is("at(0)", new ShelfNights().at(0), Due.BEYOND);
        Due.is("pageOf(0, 0)", new ShelfNights().pageOf(0, 0), Due.BEYOND);
        Due.is("ofBook(0, 0)", new ShelfNights().ofBook(0, 0), Due.BEYOND);
    }

    @Says("NIGHT (0 to 9999; 0 at first).")
    static void promise01_nightIs0AtFirst() {
        Due.is("count(1)", new ShelfNights().count(1), 0);
    }

    @Says("z is told (1 at first)")
    static void promise01_zIs1AtFirst() {
        Due.is("count(7)", new ShelfNights().count(7), 1);
        Due.is("seed(0)", new ShelfNights().seed(0), 1);
    }

    @Says("or missing (as at first).")
    static void promise01_allSheetsAreMissingAtFirst() {
        for (int sheet = 0; sheet < 4; sheet++) {
            Due.is("reads(" + sheet + ")", new ShelfNights().reads(sheet), Due.NONE);
            Due.is("put(" + sheet + ", 0, 0)", new ShelfNights().put(sheet, 0, 0), Due.NONE);
        }
    }

    @Says("without a TEXT (o+l+r)/3.")
    static void promise01_noTextOfMergeAtFirst() {
        Due.is("law(0, 10, 20, 33)", new ShelfNights().law(0, 10, 20, 33), 21);
    }

    @Says("without a TEXT a<p.")
    static void promise01_noTextOfSenseAtFirst() {
        Due.is("law(1, 10, 11, 5)", new ShelfNights().law(1, 10, 11, 5), 1);
    }

    @Says("All as at first; no BOOKS.")
    static void promise01_nothingIsThereAtFirst() {
        ShelfNights x = new ShelfNights();
        Due.is("SENSE of all", x.count(2), 0);
        Due.is("under GLASS", x.count(3), 0);
        Due.is("bytes of THE TAPE", x.count(4), 0);
        Due.is("numbers that wait", x.count(5), 0);
        Due.is("BODIES in THE TRACE", x.count(6), 0);
        Due.is("no TRACE", x.trace(0), Due.NONE);
        Due.is("no IMAGE", x.restore(), Due.NONE);
        Due.is("the first IMAGE", x.image(), 1);
    }

    @Says("How many acts have answered an ERROR LOW - k (k 1 .. 5)")
    static void promise01_noErrorIsToldAtFirst() {
        for (int k = 1; k <= 5; k++) {
            Due.is("told(" + k + ")", new ShelfNights().told(k), 0);
        }
    }

    @Says("All as at first; no BOOKS.")
    static void promise01_anObjectUsedAheadLeavesNothing() {
        String ahead = Edges.dump(new ShelfNights());
        Edges.dump(Edges.furnished());
        Due.is("a new object", Edges.dump(new ShelfNights()), ahead);
    }

    @Says("An object is used for at most 512 calls after it has been made")
    static void promise01_the512thCallAnswersStill() {
        ShelfNights x = Edges.shelfBy("o+1", null, 0);
        for (int call = 4; call <= 511; call++) {
            x.nights(1);
        }
        Due.is("the 512th call", x.count(1), 508);
    }

    // ---- promise 2: book

    @Says("A BOOK (km: 10 times the KIND, and m): its number.")
    static void promise02_leastKm() {
        ShelfNights x = new ShelfNights();
        Due.is("book(0)", x.book(0), 0);
        Due.is("its KIND", x.ofBook(0, 0), 0);
        Due.is("its m", x.ofBook(0, 1), 0);
    }

    @Says("A BOOK (km: 10 times the KIND, and m): its number.")
    static void promise02_greatestKm() {
        ShelfNights x = new ShelfNights();
        Due.is("book(69)", x.book(69), 0);
        Due.is("its KIND", x.ofBook(0, 0), 6);
        Due.is("its m", x.ofBook(0, 1), 9);
    }

    @Says("with a number m (0 to 9)")
    static void promise02_m9AndTheNextKind() {
        ShelfNights x = Edges.shelf(9, 10);
        Due.is("km 9: KIND", x.ofBook(0, 0), 0);
        Due.is("km 9: m", x.ofBook(0, 1), 9);
        Due.is("km 10: KIND", x.ofBook(1, 0), 1);
        Due.is("km 10: m", x.ofBook(1, 1), 0);
    }

    @Says("A BOOK (km: 10 times the KIND, and m): its number. BEYOND.")
    static void promise02_kmTooSmall() {
        Edges.refused("book(-1)", Due.BEYOND, x -> x.book(-1));
        Edges.refused("book(MIN)", Due.BEYOND, x -> x.book(Edges.MIN));
    }

    @Says("A BOOK (km: 10 times the KIND, and m): its number. BEYOND.")
    static void promise02_kmTooLarge() {
        Edges.refused("book(70)", Due.BEYOND, x -> x.book(70));
        Edges.refused("book(MAX)", Due.BEYOND, x -> x.book(Edges.MAX));
    }

    @Says("BOOKS 0, 1, .. (at most 6)")
    static void promise02_sixBooks() {
        ShelfNights x = new ShelfNights();
        for (int book = 0; book < 6; book++) {
            Due.is("book(" + book + ")", x.book(book), book);
        }
        Due.is("count(0)", x.count(0), 6);
    }

    @Says("BEYOND. FULL.")
    static void promise02_theSeventhIsFull() {
        Edges.refused(BooksEdgesTest::six, "book(0)", Due.FULL, x -> x.book(0));
        Edges.refused(BooksEdgesTest::six, "book(69)", Due.FULL, x -> x.book(69));
    }

    @Says("Each act tells its ERRORS in the order in which they are asked")
    static void promise02_beyondAheadOfFull() {
        Edges.refused(BooksEdgesTest::six, "book(70)", Due.BEYOND, x -> x.book(70));
        Edges.refused(BooksEdgesTest::six, "book(-1)", Due.BEYOND, x -> x.book(-1));
    }

    @Says("each a number 0 to 99 (0 at first)")
    static void promise02_pagesAre0AtFirst() {
        ShelfNights x = six();
        for (int book = 0; book < 6; book++) {
            for (int page = 0; page < 6; page++) {
                Due.is("pageOf(" + book + ", " + page + ")", x.pageOf(book, page), 0);
            }
        }
    }

    @Says("each a number 0 to 99 (0 at first)")
    static void promise02_pagesAre0WhereAnImageTookABookAway() {
        ShelfNights x = Edges.shelf(0);
        x.image();
        x.book(0);
        Due.pages(x, 1, 1, 2, 3, 4, 5, 6);
        x.glass(1, 1);
        x.restore();
        Due.is("book(12)", x.book(12), 1);
        for (int page = 0; page < 6; page++) {
            Due.is("pageOf(1, " + page + ")", x.pageOf(1, page), 0);
        }
        Due.is("under GLASS", x.ofBook(1, 3), 0);
        Edges.row(x, 0, 1);
    }

    @Says("under GLASS or not (at first)")
    static void promise02_notUnderGlassAtFirst() {
        ShelfNights x = Edges.furnished();
        x.book(0);
        Due.is("ofBook(3, 3)", x.ofBook(3, 3), 0);
    }

    @Says("a new one stands behind all others")
    static void promise02_standsBehindAllOthers() {
        ShelfNights x = Edges.shelf(0, 0, 0);
        x.stand(2, 0);
        x.stand(0, 2);
        x.book(0);
        Edges.row(x, 2, 1, 0, 3);
    }

    // ---- promise 3: page

    @Says("A PAGE of a BOOK becomes v: what it was. BEYOND.")
    static void promise03_bookTooSmall() {
        Edges.refused("page(-1, 0, 1)", Due.BEYOND, x -> x.page(-1, 0, 1));
        Edges.refused("page(MIN, 0, 1)", Due.BEYOND, x -> x.page(Edges.MIN, 0, 1));
    }

    @Says("A PAGE of a BOOK becomes v: what it was. BEYOND.")
    static void promise03_bookTooLarge() {
        Edges.refused("page(3, 0, 1) of three", Due.BEYOND, x -> x.page(3, 0, 1));
        Edges.refused("page(MAX, 0, 1)", Due.BEYOND, x -> x.page(Edges.MAX, 0, 1));
        Edges.refused(ShelfNights::new, "page(0, 0, 1) of none", Due.BEYOND, x -> x.page(0, 0, 1));
        Edges.refused(BooksEdgesTest::six, "page(6, 0, 1) of six", Due.BEYOND, x -> x.page(6, 0, 1));
    }

    @Says("6 PAGES 0 to 5")
    static void promise03_pageTooSmall() {
        Edges.refused("page(1, -1, 1)", Due.BEYOND, x -> x.page(1, -1, 1));
        Edges.refused("page(1, MIN, 1)", Due.BEYOND, x -> x.page(1, Edges.MIN, 1));
    }

    @Says("6 PAGES 0 to 5")
    static void promise03_pageTooLarge() {
        Edges.refused("page(1, 6, 1)", Due.BEYOND, x -> x.page(1, 6, 1));
        Edges.refused("page(1, MAX, 1)", Due.BEYOND, x -> x.page(1, Edges.MAX, 1));
    }

    @Says("each a number 0 to 99 (0 at first)")
    static void promise03_vTooSmall() {
        Edges.refused("page(1, 1, -1)", Due.BEYOND, x -> x.page(1, 1, -1));
        Edges.refused("page(1, 1, MIN)", Due.BEYOND, x -> x.page(1, 1, Edges.MIN));
    }

    @Says("each a number 0 to 99 (0 at first)")
    static void promise03_vTooLarge() {
        Edges.refused("page(1, 1, 100)", Due.BEYOND, x -> x.page(1, 1, 100));
        Edges.refused("page(1, 1, MAX)", Due.BEYOND, x -> x.page(1, 1, Edges.MAX));
    }

    @Says("A PAGE of a BOOK becomes v: what it was.")
    static void promise03_leastAndGreatestV() {
        ShelfNights x = Edges.shelf(0);
        Due.is("page(0, 0, 99), 0 at first", x.page(0, 0, 99), 0);
        Due.is("page(0, 0, 0)", x.page(0, 0, 0), 99);
        Due.is("page(0, 0, 99)", x.page(0, 0, 99), 0);
    }

    @Says("A PAGE of a BOOK becomes v: what it was.")
    static void promise03_firstAndLastPageOfFirstAndLastBook() {
        ShelfNights x = six();
        x.page(0, 0, 1);
        x.page(0, 5, 2);
        x.page(5, 0, 3);
        x.page(5, 5, 4);
        for (int book = 0; book < 6; book++) {
            for (int page = 0; page < 6; page++) {
                boolean set = (book == 0 || book == 5) && (page == 0 || page == 5);
                int due = set ? 1 + book / 5 * 2 + page / 5 : 0;
                Due.is("pageOf(" + book + ", " + page + ")", x.pageOf(book, page), due);
            }
        }
    }

    // ---- promise 4: pageOf

    @Says("A PAGE of a BOOK. BEYOND.")
    static void promise04_bookBeyond() {
        Edges.refused("pageOf(-1, 0)", Due.BEYOND, x -> x.pageOf(-1, 0));
        Edges.refused("pageOf(MIN, 0)", Due.BEYOND, x -> x.pageOf(Edges.MIN, 0));
        Edges.refused("pageOf(3, 0) of three", Due.BEYOND, x -> x.pageOf(3, 0));
        Edges.refused("pageOf(MAX, 0)", Due.BEYOND, x -> x.pageOf(Edges.MAX, 0));
        Edges.refused(ShelfNights::new, "pageOf(0, 0) of none", Due.BEYOND, x -> x.pageOf(0, 0));
    }

    @Says("A PAGE of a BOOK. BEYOND.")
    static void promise04_pageBeyond() {
        Edges.refused("pageOf(1, -1)", Due.BEYOND, x -> x.pageOf(1, -1));
        Edges.refused("pageOf(1, MIN)", Due.BEYOND, x -> x.pageOf(1, Edges.MIN));
        Edges.refused("pageOf(1, 6)", Due.BEYOND, x -> x.pageOf(1, 6));
        Edges.refused("pageOf(1, MAX)", Due.BEYOND, x -> x.pageOf(1, Edges.MAX));
    }

    @Says("A PAGE of a BOOK. BEYOND.")
    static void promise04_firstAndLast() {
        ShelfNights x = six();
        x.page(0, 0, 7);
        x.page(5, 5, 8);
        Due.is("pageOf(0, 0)", x.pageOf(0, 0), 7);
        Due.is("pageOf(5, 5)", x.pageOf(5, 5), 8);
    }

    // ---- promise 5: ofBook

    @Says("5 what it GIVES of 30, 6 of 80. BEYOND.")
    static void promise05_bookBeyond() {
        Edges.refused("ofBook(-1, 0)", Due.BEYOND, x -> x.ofBook(-1, 0));
        Edges.refused("ofBook(MIN, 0)", Due.BEYOND, x -> x.ofBook(Edges.MIN, 0));
        Edges.refused("ofBook(3, 0) of three", Due.BEYOND, x -> x.ofBook(3, 0));
        Edges.refused("ofBook(MAX, 6)", Due.BEYOND, x -> x.ofBook(Edges.MAX, 6));
        Edges.refused(ShelfNights::new, "ofBook(0, 0) of none", Due.BEYOND, x -> x.ofBook(0, 0));
    }

    @Says("5 what it GIVES of 30, 6 of 80. BEYOND.")
    static void promise05_whatBeyond() {
        Edges.refused("ofBook(1, -1)", Due.BEYOND, x -> x.ofBook(1, -1));
        Edges.refused("ofBook(1, MIN)", Due.BEYOND, x -> x.ofBook(1, Edges.MIN));
        Edges.refused("ofBook(1, 7)", Due.BEYOND, x -> x.ofBook(1, 7));
        Edges.refused("ofBook(1, MAX)", Due.BEYOND, x -> x.ofBook(1, Edges.MAX));
    }

    @Says("0 KIND, 1 m, 2 its place, 3 whether it is under GLASS, 4 SENSE")
    static void promise05_firstAndLastOfAll() {
        ShelfNights x = Edges.shelf(0, 0, 0, 0, 0, 69);
        x.glass(5, 1);
        Due.is("first: KIND", x.ofBook(0, 0), 0);
        Due.is("first: m", x.ofBook(0, 1), 0);
        Due.is("first: its place", x.ofBook(0, 2), 0);
        Due.is("first: under GLASS", x.ofBook(0, 3), 0);
        Due.is("last: KIND", x.ofBook(5, 0), 6);
        Due.is("last: m", x.ofBook(5, 1), 9);
        Due.is("last: its place", x.ofBook(5, 2), 5);
        Due.is("last: under GLASS", x.ofBook(5, 3), 1);
    }

    @Says("how many of PAGES 1 to 5 of a BOOK make sense")
    static void promise05_senseOfNoneAndOfAll() {
        ShelfNights x = Edges.shelf(0, 0);
        Due.pages(x, 0, 6, 5, 4, 3, 2, 1);
        Due.pages(x, 1, 1, 2, 3, 4, 5, 6);
        Due.is("SENSE of none", x.ofBook(0, 4), 0);
        Due.is("SENSE of all", x.ofBook(1, 4), 5);
    }

    @Says("n its number (1 to 5)")
    static void promise05_sensePagesAreNumbered1To5() {
        int[] due = {0, 1, 1, 1, 1, 1, 0};
        for (int n = 0; n <= 6; n++) {
            Due.is("SENSE by n=" + n, Edges.shelfBy(null, "n=" + n, 0).ofBook(0, 4), due[n]);
        }
    }

    @Says("gives what isn't 0.")
    static void promise05_senseBelow0IsSenseToo() {
        ShelfNights x = Edges.shelfBy(null, "p-a", 0);
        Due.pages(x, 0, 9, 8, 8, 9, 9, 0);
        Due.is("SENSE by p-a", x.ofBook(0, 4), 3);
    }

    @Says("LAW: v, if that is 50 or more, else 0.")
    static void promise05_lawGivesNothingOf30() {
        ShelfNights x = Edges.shelf(39);
        Due.is("of 30", x.ofBook(0, 5), 0);
        Due.is("of 80", x.ofBook(0, 6), 80);
    }

    @Says("BIBLE: as LAW, and m (99 at most).")
    static void promise05_bibleGivesMOfNothing() {
        ShelfNights x = Edges.shelf(69);
        Due.is("of 30", x.ofBook(0, 5), 9);
        Due.is("of 80", x.ofBook(0, 6), 89);
    }

    @Says("HERESY: as POEM, and m (99 at most).")
    static void promise05_heresyGivesMMore() {
        ShelfNights x = Edges.shelf(50, 59);
        Due.is("m 0 of 30", x.ofBook(0, 5), 69);
        Due.is("m 9 of 30", x.ofBook(1, 5), 78);
        Due.is("m 9 of 80", x.ofBook(1, 6), 28);
    }

    // ---- promise 6: become

    @Says("A BOOK becomes one of a KIND, with m (km): the KIND that it was. BEYOND.")
    static void promise06_bookBeyond() {
        Edges.refused("become(-1, 0)", Due.BEYOND, x -> x.become(-1, 0));
        Edges.refused("become(MIN, 0)", Due.BEYOND, x -> x.become(Edges.MIN, 0));
        Edges.refused("become(3, 0) of three", Due.BEYOND, x -> x.become(3, 0));
        Edges.refused("become(MAX, 0)", Due.BEYOND, x -> x.become(Edges.MAX, 0));
        Edges.refused(ShelfNights::new, "become(0, 0) of none", Due.BEYOND, x -> x.become(0, 0));
    }

    @Says("A BOOK becomes one of a KIND, with m (km): the KIND that it was. BEYOND.")
    static void promise06_kmBeyond() {
        Edges.refused("become(1, -1)", Due.BEYOND, x -> x.become(1, -1));
        Edges.refused("become(1, MIN)", Due.BEYOND, x -> x.become(1, Edges.MIN));
        Edges.refused("become(1, 70)", Due.BEYOND, x -> x.become(1, 70));
        Edges.refused("become(1, MAX)", Due.BEYOND, x -> x.become(1, Edges.MAX));
    }

    @Says("A BOOK becomes one of a KIND, with m (km): the KIND that it was.")
    static void promise06_leastAndGreatestKm() {
        ShelfNights x = Edges.shelf(35, 36);
        Due.is("become(1, 69)", x.become(1, 69), 3);
        Due.is("become(1, 0)", x.become(1, 0), 6);
        Due.is("become(1, 0) again", x.become(1, 0), 0);
        Due.is("its m", x.ofBook(1, 1), 0);
        Due.is("the other's KIND", x.ofBook(0, 0), 3);
        Due.is("the other's m", x.ofBook(0, 1), 5);
    }

    @Says("with a number m (0 to 9)")
    static void promise06_m0AndM9OfEachKind() {
        ShelfNights x = Edges.shelf(0);
        for (int kind = 0; kind < 7; kind++) {
            for (int m = 0; m < 10; m += 9) {
                x.become(0, 10 * kind + m);
                Due.is("KIND", x.ofBook(0, 0), kind);
                Due.is("m", x.ofBook(0, 1), m);
            }
        }
    }

    @Says("A BOOK becomes one of a KIND, with m (km): the KIND that it was.")
    static void promise06_allElseStays() {
        ShelfNights x = Edges.furnished();
        x.become(1, 44);
        x.become(1, 23);
        Due.is("all", Edges.dump(x), Edges.dump(Edges.furnished()));
    }

    // ---- promise 7: as

    @Says("A BOOK as one of a KIND: m. BEYOND.")
    static void promise07_bookBeyond() {
        Edges.refused("as(-1, 0)", Due.BEYOND, x -> x.as(-1, 0));
        Edges.refused("as(MIN, 0)", Due.BEYOND, x -> x.as(Edges.MIN, 0));
        Edges.refused("as(3, 0) of three", Due.BEYOND, x -> x.as(3, 0));
        Edges.refused("as(MAX, 0)", Due.BEYOND, x -> x.as(Edges.MAX, 0));
        Edges.refused(ShelfNights::new, "as(0, 0) of none", Due.BEYOND, x -> x.as(0, 0));
    }

    @Says("A BOOK as one of a KIND: m. BEYOND.")
    static void promise07_kindBeyond() {
        Edges.refused("as(1, -1)", Due.BEYOND, x -> x.as(1, -1));
        Edges.refused("as(1, MIN)", Due.BEYOND, x -> x.as(1, Edges.MIN));
        Edges.refused("as(1, 7)", Due.BEYOND, x -> x.as(1, 7));
        Edges.refused("as(1, MAX)", Due.BEYOND, x -> x.as(1, Edges.MAX));
    }

    @Says("Each act tells its ERRORS in the order in which they are asked")
    static void promise07_beyondAheadOfKind() {
        Edges.refused("as(3, 6) of three", Due.BEYOND, x -> x.as(3, 6));
        Edges.refused("as(0, 7), a BOOK", Due.BEYOND, x -> x.as(0, 7));
    }

    @Says("KIND: it isn't of that KIND, nor of one under it.")
    static void promise07_aKindAboveIsNoneUnderIt() {
        Edges.refused(() -> Edges.shelf(8), "as(0, 1) of a BOOK", Due.KIND, x -> x.as(0, 1));
        Edges.refused(() -> Edges.shelf(18), "as(0, 4) of a GRAMMAR", Due.KIND, x -> x.as(0, 4));
        Edges.refused(() -> Edges.shelf(28), "as(0, 5) of a POEM", Due.KIND, x -> x.as(0, 5));
        Edges.refused(() -> Edges.shelf(38), "as(0, 6) of a LAW", Due.KIND, x -> x.as(0, 6));
    }

    @Says("KIND: it isn't of that KIND, nor of one under it.")
    static void promise07_allKindsThatItIsNot() {
        String[] isNot = {"123456", "23456", "13456", "12456", "2356", "1346", "1245"};
        for (int kind = 0; kind < 7; kind++) {
            int km = 10 * kind + 8;
            for (char other : isNot[kind].toCharArray()) {
                int as = other - '0';
                Edges.refused(() -> Edges.shelf(km), "as(0, " + as + ") of km " + km, Due.KIND, x -> x.as(0, as));
            }
        }
    }

    @Says("KIND: it isn't of that KIND, nor of one under it.")
    static void promise07_ownKindAndThoseAbove() {
        int[] above = {0, 0, 0, 0, 1, 2, 3};
        for (int kind = 0; kind < 7; kind++) {
            int m = 9 - kind;
            ShelfNights x = Edges.shelf(10 * kind + m);
            Due.is("KIND " + kind + " as its own", x.as(0, kind), m);
            Due.is("KIND " + kind + " as that above", x.as(0, above[kind]), m);
            Due.is("KIND " + kind + " as a BOOK", x.as(0, 0), m);
        }
    }

    // ---- promise 8: glass

    @Says("A BOOK goes under GLASS (1), or out (0): how it was. BEYOND.")
    static void promise08_bookBeyond() {
        Edges.refused("glass(-1, 1)", Due.BEYOND, x -> x.glass(-1, 1));
        Edges.refused("glass(MIN, 1)", Due.BEYOND, x -> x.glass(Edges.MIN, 1));
        Edges.refused("glass(3, 1) of three", Due.BEYOND, x -> x.glass(3, 1));
        Edges.refused("glass(MAX, 1)", Due.BEYOND, x -> x.glass(Edges.MAX, 1));
        Edges.refused(ShelfNights::new, "glass(0, 1) of none", Due.BEYOND, x -> x.glass(0, 1));
    }

    @Says("A BOOK goes under GLASS (1), or out (0): how it was. BEYOND.")
    static void promise08_isBeyond() {
        Edges.refused("glass(2, -1)", Due.BEYOND, x -> x.glass(2, -1));
        Edges.refused("glass(2, MIN)", Due.BEYOND, x -> x.glass(2, Edges.MIN));
        Edges.refused("glass(1, 2)", Due.BEYOND, x -> x.glass(1, 2));
        Edges.refused("glass(1, MAX)", Due.BEYOND, x -> x.glass(1, Edges.MAX));
    }

    @Says("A BOOK goes under GLASS (1), or out (0): how it was.")
    static void promise08_twiceUnderAndTwiceOut() {
        ShelfNights x = Edges.shelf(0, 0);
        Due.is("glass(1, 0), out as it is", x.glass(1, 0), 0);
        Due.is("glass(1, 1)", x.glass(1, 1), 0);
        Due.is("glass(1, 1) again", x.glass(1, 1), 1);
        Due.is("how many are", x.count(3), 1);
        Due.is("which is", x.ofBook(1, 3) * 10 + x.ofBook(0, 3), 10);
        Due.is("glass(1, 0)", x.glass(1, 0), 1);
        Due.is("glass(1, 0) again", x.glass(1, 0), 0);
    }

    // ---- promise 9: stand

    @Says("A BOOK goes to a place (all others in order as they stand): where it was. BEYOND.")
    static void promise09_bookBeyond() {
        Edges.refused("stand(-1, 0)", Due.BEYOND, x -> x.stand(-1, 0));
        Edges.refused("stand(MIN, 0)", Due.BEYOND, x -> x.stand(Edges.MIN, 0));
        Edges.refused("stand(3, 0) of three", Due.BEYOND, x -> x.stand(3, 0));
        Edges.refused("stand(MAX, 0)", Due.BEYOND, x -> x.stand(Edges.MAX, 0));
        Edges.refused(ShelfNights::new, "stand(0, 0) of none", Due.BEYOND, x -> x.stand(0, 0));
    }

    @Says("A BOOK goes to a place (all others in order as they stand): where it was. BEYOND.")
    static void promise09_placeBeyond() {
        Edges.refused("stand(1, -1)", Due.BEYOND, x -> x.stand(1, -1));
        Edges.refused("stand(1, MIN)", Due.BEYOND, x -> x.stand(1, Edges.MIN));
        Edges.refused("stand(1, 3) of three", Due.BEYOND, x -> x.stand(1, 3));
        Edges.refused("stand(1, MAX)", Due.BEYOND, x -> x.stand(1, Edges.MAX));
        Edges.refused(BooksEdgesTest::six, "stand(1, 6) of six", Due.BEYOND, x -> x.stand(1, 6));
    }

    @Says("A BOOK goes to a place (all others in order as they stand): where it was.")
    static void promise09_fromTheFirstPlaceToTheLast() {
        ShelfNights x = six();
        Due.is("stand(0, 5)", x.stand(0, 5), 0);
        Edges.row(x, 1, 2, 3, 4, 5, 0);
    }

    @Says("A BOOK goes to a place (all others in order as they stand): where it was.")
    static void promise09_fromTheLastPlaceToTheFirst() {
        ShelfNights x = six();
        Due.is("stand(5, 0)", x.stand(5, 0), 5);
        Edges.row(x, 5, 0, 1, 2, 3, 4);
    }

    @Says("A BOOK goes to a place (all others in order as they stand): where it was.")
    static void promise09_whereItStands() {
        ShelfNights x = six();
        for (int book = 0; book < 6; book++) {
            Due.is("stand(" + book + ", " + book + ")", x.stand(book, book), book);
        }
        Edges.row(x, 0, 1, 2, 3, 4, 5);
    }

    @Says("A BOOK goes to a place (all others in order as they stand): where it was.")
    static void promise09_theOnlyOne() {
        ShelfNights x = Edges.shelf(0);
        Due.is("stand(0, 0)", x.stand(0, 0), 0);
        Edges.row(x, 0);
    }

    // ---- promise 10: at

    @Says("The BOOK at a place. BEYOND.")
    static void promise10_placeTooSmall() {
        Edges.refused("at(-1)", Due.BEYOND, x -> x.at(-1));
        Edges.refused("at(MIN)", Due.BEYOND, x -> x.at(Edges.MIN));
    }

    @Says("The BOOK at a place. BEYOND.")
    static void promise10_placeTooLarge() {
        Edges.refused("at(3) of three", Due.BEYOND, x -> x.at(3));
        Edges.refused("at(MAX)", Due.BEYOND, x -> x.at(Edges.MAX));
        Edges.refused(ShelfNights::new, "at(0) of none", Due.BEYOND, x -> x.at(0));
        Edges.refused(BooksEdgesTest::six, "at(6) of six", Due.BEYOND, x -> x.at(6));
    }

    @Says("The BOOK at a place. BEYOND.")
    static void promise10_firstAndLastPlace() {
        ShelfNights x = six();
        x.stand(4, 0);
        x.stand(1, 5);
        Due.is("at(0)", x.at(0), 4);
        Due.is("at(5)", x.at(5), 1);
    }
}
