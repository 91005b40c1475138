/** Promises 14 and 15 at their boundaries. */
final class NightsEdgesTest {
    public static void main(String[] args) throws Exception {
        Edges.run(NightsEdgesTest.class, 14, 15);
    }

    private static ShelfNights furnishedAt(int night) {
        return Edges.atNight(Edges.furnished(), night);
    }

    /** PAGE 0 of a BOOK of that KIND and m, which says o and whose w is w, behind NIGHT 0. */
    private static void takes(int km, int o, int w, int due) {
        takes(0, km, o, w, due);
    }

    private static void takes(int night, int km, int o, int w, int due) {
        ShelfNights x = Edges.atNight(Edges.shelfBy("l", null, 0, km), night);
        Edges.said(x, night % 6, w, o);
        x.nights(1);
        Due.is("km " + km + " takes by " + o + ", " + w + " at NIGHT " + night, x.pageOf(1, night % 6), due);
    }

    /** What the BOOK behind one of that KIND and m takes in, as that one says v. */
    private static void gives(int km, int v, int due) {
        ShelfNights x = Edges.shelfBy("l", null, km, 0);
        Edges.said(x, 0, v, 3);
        x.nights(1);
        Due.is("km " + km + " gives of " + v, x.pageOf(1, 0), due);
    }

    // ---- promise 14: nights

    @Says("n (1 to 200) NIGHTS: SENSE of all together. BEYOND.")
    static void promise14_nTooSmall() {
        Edges.refused("nights(0)", Due.BEYOND, x -> x.nights(0));
        Edges.refused("nights(-1)", Due.BEYOND, x -> x.nights(-1));
        Edges.refused("nights(MIN)", Due.BEYOND, x -> x.nights(Edges.MIN));
    }

    @Says("n (1 to 200) NIGHTS: SENSE of all together. BEYOND.")
    static void promise14_nTooLarge() {
        Edges.refused("nights(201)", Due.BEYOND, x -> x.nights(201));
        Edges.refused("nights(MAX)", Due.BEYOND, x -> x.nights(Edges.MAX));
    }

    @Says("n (1 to 200) NIGHTS: SENSE of all together.")
    static void promise14_oneNightAndTwoHundred() {
        ShelfNights x = Edges.shelfBy("o+1", "p", 0, 0);
        Due.is("nights(1)", x.nights(1), 0);
        Due.is("count(1)", x.count(1), 1);
        Edges.says(x, 0, 1, 1);
        Edges.says(x, 1, 0, 0);
        Due.is("nights(200)", x.nights(200), 10);
        Due.is("count(1)", x.count(1), 201);
        Edges.says(x, 2, 34, 34);
        Edges.says(x, 3, 33, 33);
    }

    @Says("STATE: NIGHT would be above 9999. ## Promise 15")
    static void promise14_upToNight9999() {
        ShelfNights x = Edges.atNight(Edges.shelf(0), 9799);
        Due.is("nights(200) at 9799", x.nights(200), 0);
        Due.is("count(1)", x.count(1), 9999);
        x = Edges.atNight(Edges.shelf(0), 9998);
        Due.is("nights(1) at 9998", x.nights(1), 0);
        Due.is("count(1)", x.count(1), 9999);
    }

    @Says("STATE: NIGHT would be above 9999. ## Promise 15")
    static void promise14_aboveNight9999() {
        Edges.refused(() -> furnishedAt(9999), "nights(1) at 9999", Due.STATE, x -> x.nights(1));
        Edges.refused(() -> furnishedAt(9800), "nights(200) at 9800", Due.STATE, x -> x.nights(200));
        Edges.refused(() -> furnishedAt(9998), "nights(2) at 9998", Due.STATE, x -> x.nights(2));
    }

    @Says("Each act tells its ERRORS in the order in which they are asked")
    static void promise14_beyondAheadOfState() {
        Edges.refused(() -> furnishedAt(9999), "nights(201) at 9999", Due.BEYOND, x -> x.nights(201));
        Edges.refused(() -> furnishedAt(9999), "nights(0) at 9999", Due.BEYOND, x -> x.nights(0));
        Edges.refused(() -> furnishedAt(9999), "nights(MAX) at 9999", Due.BEYOND, x -> x.nights(Edges.MAX));
    }

    @Says("n (1 to 200) NIGHTS: SENSE of all together.")
    static void promise14_withoutBooks() {
        ShelfNights x = new ShelfNights();
        Due.is("nights(200)", x.nights(200), 0);
        Due.is("count(1)", x.count(1), 200);
    }

    @Says("n (1 to 200) NIGHTS: SENSE of all together.")
    static void promise14_mostSenseOfAllTogether() {
        Due.is("nights(1)", Edges.shelfBy(null, "1", 0, 10, 20, 30, 40, 50).nights(1), 30);
    }

    @Says("Then NIGHT is 1 more.")
    static void promise14_nightsGoRoundByPages() {
        ShelfNights x = Edges.shelfBy("o+1", null, 0);
        for (int night = 0; night < 14; night++) {
            Due.is("PAGE of NIGHT " + night, x.pageOf(0, night % 6), night / 6);
            x.nights(1);
            Due.is("PAGE behind NIGHT " + night, x.pageOf(0, night % 6), night / 6 + 1);
            Due.is("the next PAGE", x.pageOf(0, (night + 1) % 6), (night + 1) / 6);
            Due.is("NIGHT", x.count(1), night + 1);
        }
    }

    @Says("all at once, by what they say ahead of it")
    static void promise14_allAtOnce() {
        ShelfNights x = Edges.shelfBy("l", null, 0, 0, 0, 0);
        Edges.said(x, 0, 10, 20, 30, 40);
        x.nights(1);
        Edges.says(x, 0, 10, 10, 20, 30);
        x = Edges.shelfBy("r", null, 0, 0, 0, 0);
        Edges.said(x, 0, 10, 20, 30, 40);
        x.nights(1);
        Edges.says(x, 0, 20, 30, 40, 40);
    }

    @Says("(each o, if there is none, or it is under GLASS)")
    static void promise14_noneAheadOfTheFirst() {
        ShelfNights x = Edges.shelfBy("l+1", null, 0, 0, 0);
        x.stand(2, 0);
        Edges.said(x, 0, 10, 20, 70);
        x.nights(1);
        Edges.says(x, 0, 71, 11, 71);
    }

    @Says("(each o, if there is none, or it is under GLASS)")
    static void promise14_noneBehindTheLast() {
        ShelfNights x = Edges.shelfBy("r+1", null, 0, 0, 0);
        x.stand(0, 2);
        Edges.said(x, 0, 10, 20, 70);
        x.nights(1);
        Edges.says(x, 0, 11, 71, 11);
    }

    @Says("(each o, if there is none, or it is under GLASS)")
    static void promise14_noneBesideTheOnlyOne() {
        ShelfNights x = Edges.shelfBy("l*10+r", null, 20);
        Edges.said(x, 0, 7);
        x.nights(1);
        // 7 as it is: not 92, which it would give.
        Edges.says(x, 0, 77);
    }

    @Says("(each o, if there is none, or it is under GLASS)")
    static void promise14_oneUnderGlassGivesNothing() {
        ShelfNights x = Edges.shelfBy("l+1", null, 0, 0, 0);
        Edges.said(x, 0, 10, 20, 70);
        x.glass(1, 1);
        x.nights(1);
        Edges.says(x, 0, 11, 20, 71);
        x = Edges.shelfBy("r+1", null, 0, 0, 0);
        Edges.said(x, 0, 10, 20, 70);
        x.glass(1, 1);
        x.nights(1);
        Edges.says(x, 0, 11, 20, 71);
    }

    @Says("of each BOOK that isn't under GLASS the PAGE that NIGHT by 6 leaves becomes what it TAKES")
    static void promise14_underGlassNothingChanges() {
        ShelfNights x = Edges.shelfBy("o+7", null, 0, 21, 59);
        for (int book = 0; book < 3; book++) {
            x.glass(book, 1);
        }
        x.nights(12);
        for (int page = 0; page < 6; page++) {
            Edges.says(x, page, 0, 0, 0);
        }
        Due.is("count(1)", x.count(1), 12);
    }

    @Says("held within 0 to 99")
    static void promise14_whatComesOfMergeIsHeld() {
        ShelfNights x = Edges.shelfBy("o*2-60", null, 0, 0, 0, 0, 0);
        Edges.said(x, 0, 0, 29, 31, 79, 80);
        x.nights(1);
        Edges.says(x, 0, 0, 0, 2, 98, 99);
        x = Edges.shelfBy("o+o", null, 0, 0, 0);
        Edges.said(x, 0, 49, 50, 99);
        x.nights(1);
        Edges.says(x, 0, 98, 99, 99);
    }

    @Says("GIVES (a PAGE with v): BOOK: v. POEM: 99 less v.")
    static void promise14_bookAndPoemGiveOfLeastAndGreatest() {
        gives(0, 0, 0);
        gives(9, 99, 99);
        gives(20, 0, 99);
        gives(29, 0, 99);
        gives(29, 99, 0);
        gives(19, 99, 99);
        gives(49, 0, 0);
    }

    @Says("LAW: v, if that is 50 or more, else 0.")
    static void promise14_lawGivesOf50OrMore() {
        gives(30, 49, 0);
        gives(30, 50, 50);
        gives(39, 51, 51);
        gives(30, 0, 0);
        gives(39, 99, 99);
    }

    @Says("HERESY: as POEM, and m (99 at most).")
    static void promise14_heresyGives99AtMost() {
        gives(59, 0, 99);
        gives(59, 8, 99);
        gives(59, 9, 99);
        gives(59, 10, 98);
        gives(50, 0, 99);
        gives(50, 99, 0);
        gives(59, 99, 9);
    }

    @Says("BIBLE: as LAW, and m (99 at most).")
    static void promise14_bibleGives99AtMost() {
        gives(69, 89, 98);
        gives(69, 90, 99);
        gives(69, 91, 99);
        gives(69, 99, 99);
        gives(60, 99, 99);
        gives(69, 49, 9);
        gives(69, 50, 59);
        gives(60, 49, 0);
    }

    @Says("GRAMMAR: what lies in the middle of o and w (their sum by 2).")
    static void promise14_grammarTakesTheMiddleCut() {
        takes(19, 0, 1, 0);
        takes(19, 1, 0, 0);
        takes(19, 1, 2, 1);
        takes(19, 0, 99, 49);
        takes(19, 99, 99, 99);
    }

    @Says("POEM: w, but if w is o, m more (99 at most).")
    static void promise14_poemTakesMMoreOnlyIfWIsO() {
        takes(29, 40, 40, 49);
        takes(29, 40, 41, 41);
        takes(29, 40, 39, 39);
        takes(20, 40, 40, 40);
        takes(29, 0, 0, 9);
    }

    @Says("POEM: w, but if w is o, m more (99 at most).")
    static void promise14_poemTakes99AtMost() {
        takes(29, 89, 89, 98);
        takes(29, 90, 90, 99);
        takes(29, 91, 91, 99);
        takes(29, 99, 99, 99);
        takes(29, 90, 99, 99);
    }

    @Says("DICTIONARY: as GRAMMAR, but no more than m from o (up or down).")
    static void promise14_dictionaryTakesNoMoreThanMUp() {
        takes(44, 10, 16, 13);
        takes(44, 10, 18, 14);
        takes(44, 10, 20, 14);
        takes(44, 10, 99, 14);
        takes(40, 10, 99, 10);
        takes(49, 0, 99, 9);
    }

    @Says("DICTIONARY: as GRAMMAR, but no more than m from o (up or down).")
    static void promise14_dictionaryTakesNoMoreThanMDown() {
        takes(44, 50, 44, 47);
        takes(44, 50, 42, 46);
        takes(44, 50, 40, 46);
        takes(44, 50, 0, 46);
        takes(40, 50, 0, 50);
        takes(49, 99, 0, 90);
        // Cut, 14 and 5 give 9: that is 5 less.
        takes(44, 14, 5, 10);
        takes(45, 14, 5, 9);
    }

    @Says("HERESY: as POEM, if NIGHT is odd, else o.")
    static void promise14_heresyTakesAtOddNights() {
        takes(0, 59, 40, 70, 40);
        takes(1, 59, 40, 70, 70);
        takes(2, 59, 40, 40, 40);
        takes(3, 59, 40, 40, 49);
        takes(5, 59, 95, 95, 99);
        takes(6, 59, 40, 70, 40);
        takes(7, 59, 40, 70, 70);
        takes(9997, 59, 40, 70, 70);
        takes(9998, 59, 40, 70, 40);
    }

    @Says("BIBLE: o, if w is less than 10 times m, else as LAW.")
    static void promise14_bibleTakesOnlyWhatIsGreat() {
        takes(65, 10, 49, 10);
        takes(65, 10, 50, 50);
        takes(65, 10, 51, 51);
        takes(60, 10, 0, 0);
        takes(61, 10, 9, 10);
        takes(61, 11, 10, 10);
        takes(69, 10, 89, 10);
        takes(69, 10, 90, 90);
        takes(65, 60, 50, 50);
    }

    @Says("(Others as the KIND above.)")
    static void promise14_lawTakesAllThatIsW() {
        takes(39, 10, 0, 0);
        takes(39, 10, 49, 49);
        takes(39, 10, 99, 99);
        takes(9, 40, 40, 40);
        takes(9, 10, 99, 99);
    }

    @Says("how many of PAGES 1 to 5 of a BOOK make sense")
    static void promise14_page0MakesNoSenseAlone() {
        ShelfNights x = Edges.shelfBy("o", null, 0, 0);
        Due.pages(x, 0, 99, 0, 0, 0, 0, 0);
        Due.pages(x, 1, 0, 0, 0, 0, 0, 99);
        Due.is("nights(1)", x.nights(1), 1);
    }

    // ---- promise 15: readers

    @Says("n (1 to 40) days of READERS by draws: likewise. BEYOND.")
    static void promise15_nTooSmall() {
        Edges.refused("readers(0)", Due.BEYOND, x -> x.readers(0));
        Edges.refused("readers(-1)", Due.BEYOND, x -> x.readers(-1));
        Edges.refused("readers(MIN)", Due.BEYOND, x -> x.readers(Edges.MIN));
    }

    @Says("n (1 to 40) days of READERS by draws: likewise. BEYOND.")
    static void promise15_nTooLarge() {
        Edges.refused("readers(41)", Due.BEYOND, x -> x.readers(41));
        Edges.refused("readers(MAX)", Due.BEYOND, x -> x.readers(Edges.MAX));
    }

    @Says("n (1 to 40) days of READERS by draws: likewise.")
    static void promise15_oneDayAndForty() {
        ShelfNights x = Edges.shelfBy("o+1", "p", 0, 0);
        Due.is("readers(1)", x.readers(1), 0);
        Due.is("count(1)", x.count(1), 1);
        Due.is("readers(40)", x.readers(40), 10);
        Due.is("count(1)", x.count(1), 41);
        Due.is("z behind 82 draws", x.count(7), drawnFrom(1, 82));
        Edges.says(x, 4, 7, 7);
        Edges.says(x, 5, 6, 6);
    }

    @Says("STATE: NIGHT would be above 9999. ## Promise 16")
    static void promise15_upToNight9999() {
        ShelfNights x = Edges.atNight(Edges.shelf(0), 9959);
        Due.is("readers(40) at 9959", x.readers(40), 0);
        Due.is("count(1)", x.count(1), 9999);
        x = Edges.atNight(Edges.shelf(0), 9998);
        Due.is("readers(1) at 9998", x.readers(1), 0);
        Due.is("count(1)", x.count(1), 9999);
    }

    @Says("STATE: NIGHT would be above 9999. ## Promise 16")
    static void promise15_aboveNight9999() {
        Edges.refused(() -> furnishedAt(9999), "readers(1) at 9999", Due.STATE, x -> x.readers(1));
        Edges.refused(() -> furnishedAt(9960), "readers(40) at 9960", Due.STATE, x -> x.readers(40));
        Edges.refused(() -> Edges.atNight(new ShelfNights(), 9999), "readers(1) at 9999 without BOOKS", Due.STATE,
            x -> x.readers(1));
    }

    @Says("Each act tells its ERRORS in the order in which they are asked")
    static void promise15_beyondAheadOfState() {
        Edges.refused(() -> furnishedAt(9999), "readers(41) at 9999", Due.BEYOND, x -> x.readers(41));
        Edges.refused(() -> furnishedAt(9999), "readers(0) at 9999", Due.BEYOND, x -> x.readers(0));
        Edges.refused(() -> furnishedAt(9999), "readers(MAX) at 9999", Due.BEYOND, x -> x.readers(Edges.MAX));
    }

    @Says("Each day two draws, if there are BOOKS")
    static void promise15_withoutBooksNoDraws() {
        ShelfNights x = new ShelfNights();
        Due.is("readers(40)", x.readers(40), 0);
        Due.is("z", x.count(7), 1);
        Due.is("NIGHT", x.count(1), 40);
    }

    @Says("Each day two draws, if there are BOOKS")
    static void promise15_theOnlyBookIsDrawnTwice() {
        ShelfNights x = Edges.shelf(0);
        x.readers(3);
        Due.is("z", x.count(7), drawnFrom(1, 6));
        Edges.row(x, 0);
    }

    @Says("each makes it z * 1103515245 + 12345 (an int), and gives z >>> 8.")
    static void promise15_zWraps() {
        for (int z : new int[] {0, -1, Edges.MIN, Edges.MAX, 1 << 30}) {
            ShelfNights x = Edges.shelf(0);
            x.seed(z);
            x.readers(1);
            Due.is("z behind two draws from " + z, x.count(7), drawnFrom(z, 2));
        }
    }

    @Says("each makes it z * 1103515245 + 12345 (an int), and gives z >>> 8.")
    static void promise15_drawsOfZBelow0() {
        int below0 = 0;
        for (int seed = 0; seed < 60; seed++) {
            int books = 2 + seed % 5;
            ShelfNights x = Edges.shelf(new int[books]);
            x.seed(seed);
            x.readers(1);
            int from = (int) ((drawnFrom(seed, 1) & 0xFFFFFFFFL) / 256 % books);
            int to = (int) ((drawnFrom(seed, 2) & 0xFFFFFFFFL) / 256 % books);
            below0 += drawnFrom(seed, 1) < 0 && drawnFrom(seed, 2) < 0 && from != to ? 1 : 0;
            Due.is("seed " + seed + ": the place of BOOK " + from, x.ofBook(from, 2), to);
        }
        Due.is("both draws of z below 0", Math.min(below0, 5), 5);
    }

    @Says("goes to the place that is the second one's rest; then a NIGHT.")
    static void promise15_theBookGoesAheadOfTheNight() {
        // From z 4 the first draw's rest is 1, the second one's 0.
        Due.is("the first rest", (drawnFrom(4, 1) & 0xFFFFFFFFL) / 256 % 2, 1);
        Due.is("the second rest", (drawnFrom(4, 2) & 0xFFFFFFFFL) / 256 % 2, 0);
        ShelfNights x = Edges.shelfBy("l", null, 0, 0);
        x.seed(4);
        Edges.said(x, 0, 10, 20);
        x.readers(1);
        Edges.row(x, 1, 0);
        Edges.says(x, 0, 20, 20);
    }

    private static int drawnFrom(int z, int times) {
        long drawn = z;
        for (int i = 0; i < times; i++) {
            drawn = (int) ((drawn * 1103515245L + 12345L) % (1L << 32));
        }
        return (int) drawn;
    }
}
