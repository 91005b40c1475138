/** Promises 16 to 24 at their boundaries. */
final class ThoughtEdgesTest {
    public static void main(String[] args) throws Exception {
        Edges.run(ThoughtEdgesTest.class, 16, 24);
    }

    private static ShelfNights oneAtNight9999() {
        return Edges.atNight(Edges.shelfBy("o+1", null, 0), 9999);
    }

    /** PAGES of the only BOOK, by that MERGE. */
    private static ShelfNights oneBy(String merge, int... pages) {
        ShelfNights x = Edges.shelfBy(merge, null, 0);
        Due.pages(x, 0, pages);
        return x;
    }

    private static ShelfNights six(String merge, String sense, int... said) {
        ShelfNights x = Edges.shelfBy(merge, sense, 0, 0, 0, 0, 0, 0);
        Edges.said(x, 0, said);
        return x;
    }

    // ---- promise 16: then

    @Says("BEHIND n NIGHTS (0 to 200).")
    static void promise16_nBeyond() {
        Edges.refused("then(-1, 0, 0)", Due.BEYOND, x -> x.then(-1, 0, 0));
        Edges.refused("then(MIN, 0, 0)", Due.BEYOND, x -> x.then(Edges.MIN, 0, 0));
        Edges.refused("then(201, 0, 0)", Due.BEYOND, x -> x.then(201, 0, 0));
        Edges.refused("then(MAX, 0, 0)", Due.BEYOND, x -> x.then(Edges.MAX, 0, 0));
    }

    @Says("BEHIND n NIGHTS: a PAGE of a BOOK. BEYOND.")
    static void promise16_bookOrPageBeyond() {
        Edges.refused("then(1, -1, 0)", Due.BEYOND, x -> x.then(1, -1, 0));
        Edges.refused("then(1, 3, 0) of three", Due.BEYOND, x -> x.then(1, 3, 0));
        Edges.refused("then(1, MAX, 0)", Due.BEYOND, x -> x.then(1, Edges.MAX, 0));
        Edges.refused("then(1, 0, -1)", Due.BEYOND, x -> x.then(1, 0, -1));
        Edges.refused("then(1, 0, 6)", Due.BEYOND, x -> x.then(1, 0, 6));
        Edges.refused("then(1, 0, MIN)", Due.BEYOND, x -> x.then(1, 0, Edges.MIN));
        Edges.refused(ShelfNights::new, "then(0, 0, 0) of none", Due.BEYOND, x -> x.then(0, 0, 0));
    }

    @Says("BEHIND n NIGHTS (0 to 200).")
    static void promise16_behindNoNight() {
        ShelfNights x = oneBy("o+1", 5, 6, 7, 8, 9, 10);
        for (int page = 0; page < 6; page++) {
            Due.is("then(0, 0, " + page + ")", x.then(0, 0, page), 5 + page);
        }
        Due.is("then(1, 0, 0)", x.then(1, 0, 0), 6);
        Due.is("then(1, 0, 1)", x.then(1, 0, 1), 6);
    }

    @Says("BEHIND n NIGHTS (0 to 200).")
    static void promise16_behind200Nights() {
        ShelfNights x = oneBy("o+1");
        int[] due = {34, 34, 33, 33, 33, 33};
        for (int page = 0; page < 6; page++) {
            Due.is("then(200, 0, " + page + ")", x.then(200, 0, page), due[page]);
        }
        Due.is("then(199, 0, 1)", x.then(199, 0, 1), 33);
    }

    @Says("(All this is only thought, NIGHT beyond 9999, too.)")
    static void promise16_onlyThought() {
        Edges.onlyThought("then(200, 0, 0)", x -> x.then(200, 0, 0));
        Edges.onlyThought("then(1, 2, 3)", x -> x.then(1, 2, 3));
    }

    @Says("(All this is only thought, NIGHT beyond 9999, too.)")
    static void promise16_nightBeyond9999() {
        // NIGHT 9999 is that of PAGE 3.
        ShelfNights x = oneAtNight9999();
        Due.pages(x, 0, 1, 1, 1, 1, 1, 1);
        Due.is("then(1, 0, 3)", x.then(1, 0, 3), 2);
        Due.is("then(1, 0, 4)", x.then(1, 0, 4), 1);
        Due.is("then(200, 0, 4)", x.then(200, 0, 4), 35);
        Due.is("then(200, 0, 5)", x.then(200, 0, 5), 34);
        Due.is("count(1)", x.count(1), 9999);
    }

    @Says("HERESY: as POEM, if NIGHT is odd, else o.")
    static void promise16_nightBeyond9999IsOddOrNot() {
        ShelfNights x = Edges.atNight(Edges.shelfBy("o+1", null, 50), 9999);
        Due.pages(x, 0, 1, 1, 1, 1, 1, 1);
        Due.is("then(1, 0, 3)", x.then(1, 0, 3), 2);
        Due.is("then(2, 0, 4)", x.then(2, 0, 4), 1);
        Due.is("then(3, 0, 5)", x.then(3, 0, 5), 2);
    }

    // ---- promise 17: when

    @Says("WHEN. BEYOND (v 0 to 99). NONE: not by 200.")
    static void promise17_vBeyond() {
        Edges.refused("when(0, 0, -1)", Due.BEYOND, x -> x.when(0, 0, -1));
        Edges.refused("when(0, 0, MIN)", Due.BEYOND, x -> x.when(0, 0, Edges.MIN));
        Edges.refused("when(0, 0, 100)", Due.BEYOND, x -> x.when(0, 0, 100));
        Edges.refused("when(0, 0, MAX)", Due.BEYOND, x -> x.when(0, 0, Edges.MAX));
    }

    @Says("WHEN. BEYOND (v 0 to 99). NONE: not by 200.")
    static void promise17_bookOrPageBeyond() {
        Edges.refused("when(-1, 0, 1)", Due.BEYOND, x -> x.when(-1, 0, 1));
        Edges.refused("when(3, 0, 1) of three", Due.BEYOND, x -> x.when(3, 0, 1));
        Edges.refused("when(MAX, 0, 1)", Due.BEYOND, x -> x.when(Edges.MAX, 0, 1));
        Edges.refused("when(0, -1, 1)", Due.BEYOND, x -> x.when(0, -1, 1));
        Edges.refused("when(0, 6, 1)", Due.BEYOND, x -> x.when(0, 6, 1));
        Edges.refused("when(0, MAX, 1)", Due.BEYOND, x -> x.when(0, Edges.MAX, 1));
        Edges.refused(ShelfNights::new, "when(0, 0, 0) of none", Due.BEYOND, x -> x.when(0, 0, 0));
    }

    @Says("WHEN: behind how many NIGHTS (0 to 200) a PAGE says v first.")
    static void promise17_leastAndGreatestV() {
        Due.is("when(0, 2, 0)", oneBy("99").when(0, 2, 0), 0);
        Due.is("when(0, 2, 99)", oneBy("99").when(0, 2, 99), 3);
        Due.is("when(0, 5, 99) as it says", oneBy("0", 0, 0, 0, 0, 0, 99).when(0, 5, 99), 0);
        Due.is("when(0, 5, 0)", oneBy("0", 0, 0, 0, 0, 0, 99).when(0, 5, 0), 6);
    }

    @Says("WHEN: behind how many NIGHTS (0 to 200) a PAGE says v first.")
    static void promise17_behind200Nights() {
        Due.is("when(0, 0, 34)", oneBy("o+1").when(0, 0, 34), 199);
        Due.is("when(0, 1, 34)", oneBy("o+1").when(0, 1, 34), 200);
    }

    @Says("NONE: not by 200. ## Promise 18: still")
    static void promise17_behind201Nights() {
        Edges.refused(() -> oneBy("o+1"), "when(0, 2, 34)", Due.NONE, x -> x.when(0, 2, 34));
        Edges.refused(() -> oneBy("7"), "when(0, 2, 8), never", Due.NONE, x -> x.when(0, 2, 8));
    }

    @Says("a PAGE says v first.")
    static void promise17_theFirstOfSeveralTimes() {
        Due.is("when(0, 0, 2)", oneBy("(o+1)%3").when(0, 0, 2), 7);
        Due.is("when(0, 0, 0), now and later", oneBy("(o+1)%3").when(0, 0, 0), 0);
    }

    @Says("Each act tells its ERRORS in the order in which they are asked")
    static void promise17_beyondAheadOfNone() {
        Edges.refused(() -> oneBy("7"), "when(0, 2, 100), never", Due.BEYOND, x -> x.when(0, 2, 100));
        Edges.refused(() -> oneBy("7"), "when(0, 6, 8), never", Due.BEYOND, x -> x.when(0, 6, 8));
    }

    @Says("(All this is only thought, NIGHT beyond 9999, too.)")
    static void promise17_onlyThoughtBeyondNight9999() {
        Edges.onlyThought("when(2, 3, 98)", x -> x.when(2, 3, 98));
        ShelfNights x = oneAtNight9999();
        Due.pages(x, 0, 1, 1, 1, 1, 1, 1);
        Due.is("when(0, 3, 2)", x.when(0, 3, 2), 1);
        Due.is("when(0, 2, 34)", x.when(0, 2, 34), 198);
    }

    // ---- promise 18: still

    @Says("STILL: behind how many NIGHTS (0 to 200) first none of 6 NIGHTS more changes a PAGE.")
    static void promise18_stillNow() {
        Due.is("still()", oneBy("o", 1, 2, 3, 4, 5, 6).still(), 0);
    }

    @Says("STILL: behind how many NIGHTS (0 to 200) first none of 6 NIGHTS more changes a PAGE.")
    static void promise18_withoutBooks() {
        Due.is("still()", new ShelfNights().still(), 0);
        Due.is("still() at 9999", Edges.atNight(new ShelfNights(), 9999).still(), 0);
    }

    @Says("none of 6 NIGHTS more changes a PAGE.")
    static void promise18_theSixthNightChangesOne() {
        Due.is("still(), the sixth", oneBy("1", 1, 1, 1, 1, 1, 0).still(), 6);
        Due.is("still(), the fifth", oneBy("1", 1, 1, 1, 1, 0, 1).still(), 5);
        Due.is("still(), the first", oneBy("1", 0, 1, 1, 1, 1, 1).still(), 1);
        Due.is("still(), the first and the sixth", oneBy("1", 0, 1, 1, 1, 1, 0).still(), 6);
    }

    @Says("STILL: behind how many NIGHTS (0 to 200)")
    static void promise18_behind200Nights() {
        Due.is("still(), 199", oneBy("o+(o<35)", 1, 35, 35, 35, 35, 35).still(), 199);
        Due.is("still(), 200", oneBy("o+(o<35)", 35, 1, 35, 35, 35, 35).still(), 200);
    }

    @Says("STILL. NONE: not by 200.")
    static void promise18_behind201Nights() {
        Edges.refused(() -> oneBy("o+(o<35)", 35, 35, 1, 35, 35, 35), "still(), 201", Due.NONE, x -> x.still());
        Edges.refused(() -> oneBy("(o+1)%2"), "still(), never", Due.NONE, x -> x.still());
    }

    @Says("none of 6 NIGHTS more changes a PAGE.")
    static void promise18_anyPageOfAnyBook() {
        ShelfNights x = Edges.shelfBy("o+(o=1)", null, 0, 0, 0);
        x.page(2, 4, 1);
        Due.is("still(), the last BOOK alone", x.still(), 5);
        x.page(0, 5, 1);
        Due.is("still(), the first BOOK, too", x.still(), 6);
        x.glass(0, 1);
        Due.is("still(), under GLASS", x.still(), 5);
    }

    @Says("(All this is only thought, NIGHT beyond 9999, too.)")
    static void promise18_onlyThoughtBeyondNight9999() {
        Edges.onlyThought("still()", x -> x.still());
        ShelfNights x = Edges.atNight(Edges.shelfBy("o+(o=1)", null, 0), 9999);
        x.page(0, 2, 1);
        Due.is("still() at 9999, PAGE 2 is the last", x.still(), 6);
    }

    // ---- promise 19: round

    @Says("ROUND: the least number of NIGHTS (6, 12, .. 120) behind which all PAGES are as now.")
    static void promise19_sixNights() {
        Due.is("round()", oneBy("o", 1, 2, 3, 4, 5, 6).round(), 6);
        Due.is("round() at 9999", oneAtNight9999().round(), 6);
    }

    @Says("ROUND: the least number of NIGHTS (6, 12, .. 120) behind which all PAGES are as now.")
    static void promise19_withoutBooks() {
        Due.is("round()", new ShelfNights().round(), 6);
    }

    @Says("behind which all PAGES are as now.")
    static void promise19_sixBooks() {
        ShelfNights x = six("(o+1)%3", null, 0, 1, 2, 0, 1, 2);
        Due.is("round()", x.round(), 18);
        x.page(5, 5, 3);
        Due.is("round(), the last PAGE isn't as now", x.round(), Due.NONE);
        x.glass(5, 1);
        Due.is("round(), the last BOOK under GLASS", x.round(), 18);
    }

    @Says("ROUND: the least number of NIGHTS (6, 12, .. 120) behind which all PAGES are as now.")
    static void promise19_120Nights() {
        Due.is("round(), 114", oneBy("(o+1)%19").round(), 114);
        Due.is("round(), 120", oneBy("(o+1)%20").round(), 120);
    }

    @Says("ROUND. NONE: not by 120.")
    static void promise19_126Nights() {
        Edges.refused(() -> oneBy("(o+1)%21"), "round(), 126", Due.NONE, x -> x.round());
        Edges.refused(() -> oneBy("7"), "round(), never", Due.NONE, x -> x.round());
    }

    @Says("ROUND: the least number of NIGHTS (6, 12, .. 120) behind which all PAGES are as now.")
    static void promise19_theLeastOfSeveral() {
        Due.is("round() by twos", oneBy("(o+1)%2").round(), 12);
        Due.is("round() by threes", oneBy("(o+1)%3").round(), 18);
    }

    @Says("behind which all PAGES are as now.")
    static void promise19_onePageIsNotAsNow() {
        for (int page = 0; page < 6; page++) {
            for (int book = 0; book < 3; book += 2) {
                ShelfNights x = Edges.shelfBy("o+(o=1)", null, 0, 0, 0);
                x.page(book, page, 1);
                Due.is("round(), PAGE " + page + " of BOOK " + book, x.round(), Due.NONE);
            }
        }
    }

    @Says("(All this is only thought, NIGHT beyond 9999, too.)")
    static void promise19_onlyThoughtBeyondNight9999() {
        Edges.onlyThought("round()", x -> x.round());
        ShelfNights x = Edges.atNight(Edges.shelfBy("(o+1)%20", null, 0), 9999);
        Due.is("round() at 9999", x.round(), 120);
    }

    // ---- promise 20: place

    @Says("so that a PAGE of it says v behind n NIGHTS (0 to 60).")
    static void promise20_nBeyond() {
        Edges.refused("place(0, 0, 11, -1)", Due.BEYOND, x -> x.place(0, 0, 11, -1));
        Edges.refused("place(0, 0, 11, MIN)", Due.BEYOND, x -> x.place(0, 0, 11, Edges.MIN));
        Edges.refused("place(0, 0, 11, 61)", Due.BEYOND, x -> x.place(0, 0, 11, 61));
        Edges.refused("place(0, 0, 11, MAX)", Due.BEYOND, x -> x.place(0, 0, 11, Edges.MAX));
    }

    @Says("STAND: the place. BEYOND. NONE: at none.")
    static void promise20_bookOrPageBeyond() {
        Edges.refused("place(-1, 0, 1, 1)", Due.BEYOND, x -> x.place(-1, 0, 1, 1));
        Edges.refused("place(3, 0, 1, 1) of three", Due.BEYOND, x -> x.place(3, 0, 1, 1));
        Edges.refused("place(MAX, 0, 1, 1)", Due.BEYOND, x -> x.place(Edges.MAX, 0, 1, 1));
        Edges.refused("place(0, -1, 1, 1)", Due.BEYOND, x -> x.place(0, -1, 1, 1));
        Edges.refused("place(0, 6, 1, 1)", Due.BEYOND, x -> x.place(0, 6, 1, 1));
        Edges.refused("place(0, MIN, 1, 1)", Due.BEYOND, x -> x.place(0, Edges.MIN, 1, 1));
        Edges.refused(ShelfNights::new, "place(0, 0, 0, 0) of none", Due.BEYOND, x -> x.place(0, 0, 0, 0));
    }

    /** The document names no range for v here; it is read as that of a PAGE. */
    @Says("STAND: the place. BEYOND. NONE: at none.")
    static void promise20_vBeyond() {
        Edges.refused("place(0, 0, -1, 1)", Due.BEYOND, x -> x.place(0, 0, -1, 1));
        Edges.refused("place(0, 0, 100, 1)", Due.BEYOND, x -> x.place(0, 0, 100, 1));
        Edges.refused("place(0, 0, MAX, 1)", Due.BEYOND, x -> x.place(0, 0, Edges.MAX, 1));
    }

    @Says("so that a PAGE of it says v behind n NIGHTS (0 to 60).")
    static void promise20_behindNoNightAndBehindSixty() {
        ShelfNights x = Edges.shelfBy("o+1", null, 0, 0);
        Due.is("place(1, 0, 0, 0)", x.place(1, 0, 0, 0), 0);
        Due.is("place(1, 0, 1, 0)", x.place(1, 0, 1, 0), Due.NONE);
        Due.is("place(1, 5, 10, 60)", x.place(1, 5, 10, 60), 0);
        Due.is("place(1, 5, 9, 60)", x.place(1, 5, 9, 60), Due.NONE);
        Due.is("place(1, 5, 9, 59)", x.place(1, 5, 9, 59), 0);
    }

    @Says("so that a PAGE of it says v")
    static void promise20_leastAndGreatestV() {
        ShelfNights x = Edges.shelfBy("l", null, 0, 0);
        Edges.said(x, 0, 99, 0);
        Due.is("place(1, 0, 99, 1)", x.place(1, 0, 99, 1), 1);
        Due.is("place(1, 0, 0, 1)", x.place(1, 0, 0, 1), 0);
    }

    @Says("of all places the least at which a BOOK should stand")
    static void promise20_theLeastPlaceOfSeveral() {
        ShelfNights x = Edges.shelfBy("l", null, 0, 0, 0, 0);
        Edges.said(x, 0, 5, 7, 7, 5);
        Due.is("place(0, 0, 7, 1), 1 and 2 are", x.place(0, 0, 7, 1), 1);
        Due.is("place(3, 0, 5, 1), 0 and 1 are", x.place(3, 0, 5, 1), 0);
        Due.is("place(3, 0, 7, 1)", x.place(3, 0, 7, 1), 2);
    }

    @Says("of all places the least at which a BOOK should stand (all others in order as they do)")
    static void promise20_theLastPlaceOfSix() {
        ShelfNights x = six("l", null, 1, 2, 3, 4, 5, 6);
        Due.is("place(0, 0, 6, 1)", x.place(0, 0, 6, 1), 5);
        Due.is("place(0, 0, 1, 1)", x.place(0, 0, 1, 1), 0);
        Due.is("place(5, 0, 5, 1)", x.place(5, 0, 5, 1), 5);
        Due.is("place(5, 0, 1, 1)", x.place(5, 0, 1, 1), 1);
        Due.is("place(2, 0, 4, 1)", x.place(2, 0, 4, 1), 3);
    }

    @Says("NONE: at none.")
    static void promise20_atNone() {
        Edges.refused(() -> six("l", null, 1, 2, 3, 4, 5, 6), "place(0, 0, 7, 1)", Due.NONE, x -> x.place(0, 0, 7, 1));
        Edges.refused(() -> oneBy("o"), "place(0, 0, 1, 60)", Due.NONE, x -> x.place(0, 0, 1, 60));
    }

    @Says("Each act tells its ERRORS in the order in which they are asked")
    static void promise20_beyondAheadOfNone() {
        Edges.refused(() -> oneBy("o"), "place(0, 0, 1, 61)", Due.BEYOND, x -> x.place(0, 0, 1, 61));
        Edges.refused(() -> oneBy("o"), "place(1, 0, 1, 1)", Due.BEYOND, x -> x.place(1, 0, 1, 1));
    }

    @Says("(All this is only thought, NIGHT beyond 9999, too.)")
    static void promise20_onlyThoughtBeyondNight9999() {
        Edges.onlyThought("place(0, 0, 98, 60)", x -> x.place(0, 0, 98, 60));
        Edges.onlyThought("place(2, 1, 11, 0)", x -> x.place(2, 1, 11, 0));
        ShelfNights x = oneAtNight9999();
        Due.pages(x, 0, 1, 1, 1, 1, 1, 1);
        Due.is("place(0, 3, 2, 1)", x.place(0, 3, 2, 1), 0);
        Due.is("place(0, 2, 11, 60)", x.place(0, 2, 11, 60), 0);
    }

    // ---- promise 21: order

    @Says("BEST ORDER by n (0 to 12)")
    static void promise21_nBeyond() {
        Edges.refused("order(-1, -1)", Due.BEYOND, x -> x.order(-1, -1));
        Edges.refused("order(MIN, -1)", Due.BEYOND, x -> x.order(Edges.MIN, -1));
        Edges.refused("order(13, -1)", Due.BEYOND, x -> x.order(13, -1));
        Edges.refused("order(MAX, 0)", Due.BEYOND, x -> x.order(Edges.MAX, 0));
    }

    @Says("what -1 SENSE, else the BOOK at that place. BEYOND.")
    static void promise21_whatBeyond() {
        Edges.refused("order(1, -2)", Due.BEYOND, x -> x.order(1, -2));
        Edges.refused("order(1, MIN)", Due.BEYOND, x -> x.order(1, Edges.MIN));
        Edges.refused("order(1, 3) of three", Due.BEYOND, x -> x.order(1, 3));
        Edges.refused("order(1, MAX)", Due.BEYOND, x -> x.order(1, Edges.MAX));
        Edges.refused(() -> six("o", null), "order(0, 6) of six", Due.BEYOND, x -> x.order(0, 6));
    }

    @Says("BEST ORDER by n: what -1 SENSE, else the BOOK at that place. BEYOND.")
    static void promise21_withoutBooks() {
        Due.is("order(0, -1)", new ShelfNights().order(0, -1), 0);
        Due.is("order(12, -1)", new ShelfNights().order(12, -1), 0);
        Edges.refused(ShelfNights::new, "order(0, 0)", Due.BEYOND, x -> x.order(0, 0));
    }

    @Says("BEST ORDER by n: what -1 SENSE, else the BOOK at that place.")
    static void promise21_theOnlyBook() {
        ShelfNights x = oneBy("o", 1, 2, 3, 3, 3, 4);
        Due.is("order(5, -1)", x.order(5, -1), 3);
        Due.is("order(5, 0)", x.order(5, 0), 0);
        Due.is("order(5, 1)", x.order(5, 1), Due.BEYOND);
    }

    @Says("SENSE of all together is most behind n NIGHTS")
    static void promise21_behindNoNightAndBehindTwelve() {
        ShelfNights x = Edges.shelfBy("o+1", "n=5&p=2", 0, 0);
        Due.is("order(12, -1)", x.order(12, -1), 2);
        Due.is("order(11, -1)", x.order(11, -1), 0);
        x.page(1, 5, 2);
        Due.is("order(0, -1)", x.order(0, -1), 1);
    }

    @Says("SENSE of all together is most")
    static void promise21_leastAndMostSense() {
        Due.is("order(1, -1), none", six("o", "0").order(1, -1), 0);
        Due.is("order(1, 5), none", six("o", "0").order(1, 5), 5);
        Due.is("order(1, -1), all", six("o", "1").order(1, -1), 30);
    }

    @Says("of several the first, by BOOKS from place 0 on.")
    static void promise21_theFirstOfAllRows() {
        ShelfNights x = Edges.shelfBy("o", "1", 0, 0, 0, 0);
        x.stand(0, 3);
        x.stand(3, 0);
        x.stand(1, 2);
        for (int place = 0; place < 4; place++) {
            Due.is("order(3, " + place + ")", x.order(3, place), place);
        }
    }

    @Says("of several the first, by BOOKS from place 0 on.")
    static void promise21_theFirstOfSeveralRows() {
        // BOOK 1 must stand right behind BOOK 2: 0 2 1, 2 1 0.
        ShelfNights x = Edges.shelfBy("(o=4&l=8)*9", "n=1&a=9", 0, 0, 0);
        Edges.said(x, 0, 3, 4, 8);
        int[] row = {0, 2, 1};
        for (int place = 0; place < 3; place++) {
            Due.is("order(1, " + place + ")", x.order(1, place), row[place]);
        }
        Due.is("order(1, -1)", x.order(1, -1), 1);
    }

    @Says("of all rows of all BOOKS that in which SENSE of all together is most")
    static void promise21_theLastOf720Rows() {
        // Each PAGE 0 must be one less than that ahead of it, 6 the first.
        ShelfNights x = six("(l-1=o|l=o&o=6)*9", "n=1&a=9", 1, 2, 3, 4, 5, 6);
        Due.is("order(1, -1)", x.order(1, -1), 6);
        for (int place = 0; place < 6; place++) {
            Due.is("order(1, " + place + ")", x.order(1, place), 5 - place);
        }
    }

    @Says("(All this is only thought, NIGHT beyond 9999, too.)")
    static void promise21_onlyThoughtBeyondNight9999() {
        Edges.onlyThought("order(12, -1)", x -> x.order(12, -1));
        Edges.onlyThought("order(0, 2)", x -> x.order(0, 2));
        ShelfNights x = Edges.atNight(Edges.shelfBy("o+1", "n=2&p=2", 0), 9999);
        x.page(0, 2, 0);
        Due.is("order(12, -1)", x.order(12, -1), 1);
        Due.is("order(11, -1)", x.order(11, -1), 0);
    }

    // ---- promise 22: apart

    @Says("for n NIGHTS, 0 to 60")
    static void promise22_nBeyond() {
        Edges.refused("apart(-1, 0)", Due.BEYOND, x -> x.apart(-1, 0));
        Edges.refused("apart(MIN, 0)", Due.BEYOND, x -> x.apart(Edges.MIN, 0));
        Edges.refused("apart(61, 0)", Due.BEYOND, x -> x.apart(61, 0));
        Edges.refused("apart(MAX, 1)", Due.BEYOND, x -> x.apart(Edges.MAX, 1));
    }

    @Says("APART: what 0 the pair, 1 SENSE then. BEYOND.")
    static void promise22_whatBeyond() {
        Edges.refused("apart(1, -1)", Due.BEYOND, x -> x.apart(1, -1));
        Edges.refused("apart(1, MIN)", Due.BEYOND, x -> x.apart(1, Edges.MIN));
        Edges.refused("apart(1, 2)", Due.BEYOND, x -> x.apart(1, 2));
        Edges.refused("apart(1, MAX)", Due.BEYOND, x -> x.apart(1, Edges.MAX));
    }

    @Says("NONE: no two stand beside one another.")
    static void promise22_noTwo() {
        Edges.refused(ShelfNights::new, "apart(1, 0) without BOOKS", Due.NONE, x -> x.apart(1, 0));
        Edges.refused(ShelfNights::new, "apart(1, 1) without BOOKS", Due.NONE, x -> x.apart(1, 1));
        Edges.refused(() -> Edges.shelf(0), "apart(0, 0) of one", Due.NONE, x -> x.apart(0, 0));
        Edges.refused(() -> Edges.shelf(0), "apart(60, 1) of one", Due.NONE, x -> x.apart(60, 1));
    }

    @Says("Each act tells its ERRORS in the order in which they are asked")
    static void promise22_beyondAheadOfNone() {
        Edges.refused(ShelfNights::new, "apart(61, 0) without BOOKS", Due.BEYOND, x -> x.apart(61, 0));
        Edges.refused(ShelfNights::new, "apart(1, 2) without BOOKS", Due.BEYOND, x -> x.apart(1, 2));
    }

    @Says("10 times the BOOK at that place, and the one behind it.")
    static void promise22_theOnlyPair() {
        ShelfNights x = Edges.shelfBy(null, "0", 0, 0);
        Due.is("apart(1, 0)", x.apart(1, 0), 1);
        Due.is("apart(1, 1)", x.apart(1, 1), 0);
        x.stand(1, 0);
        Due.is("apart(1, 0), turned", x.apart(1, 0), 10);
    }

    @Says("of several the one that begins at the least place")
    static void promise22_theLeastPlaceOfSeveral() {
        ShelfNights x = six("o", "1");
        x.stand(4, 0);
        x.stand(0, 5);
        Due.is("apart(3, 0)", x.apart(3, 0), 41);
        Due.is("apart(3, 1)", x.apart(3, 1), 30);
        // 7 goes on to BOOKS 3 and 5, and stays at 2 or at 4 with a pane ahead of it.
        ShelfNights y = six("l", "n=1&a=7", 50, 50, 7, 50, 7, 50);
        Due.is("apart(1, 1)", y.apart(1, 1), 3);
        Due.is("apart(1, 0)", y.apart(1, 0), 12);
    }

    @Says("of all pairs of BOOKS that stand beside one another")
    static void promise22_theLastPair() {
        ShelfNights x = six("l", "n=1&a=7", 50, 50, 50, 50, 50, 7);
        Due.is("apart(1, 0)", x.apart(1, 0), 45);
        Due.is("apart(1, 1)", x.apart(1, 1), 1);
    }

    @Says("of all pairs of BOOKS that stand beside one another")
    static void promise22_theFirstPair() {
        ShelfNights x = six("r", "n=1&a=7", 7, 50, 50, 50, 50, 50);
        Due.is("apart(1, 0)", x.apart(1, 0), 1);
        Due.is("apart(1, 1)", x.apart(1, 1), 1);
    }

    @Says("neither takes anything from the other one, as if that weren't there")
    static void promise22_neitherTakesFromTheOther() {
        ShelfNights x = Edges.shelfBy("l+r", "n=1&(a=26|a=34)", 0, 0);
        Edges.said(x, 0, 13, 17);
        // With the pane each has its own twice.
        Due.is("apart(1, 1)", x.apart(1, 1), 2);
    }

    @Says("neither takes anything from the other one, as if that weren't there")
    static void promise22_allOthersTakeStill() {
        // Row 0 1 2 3: with the pane in the middle 0 and 1 take from each other, 2 and 3 do.
        ShelfNights x = Edges.shelfBy("l*10+r", "n=1&(a=12|a=34)", 0, 0, 0, 0);
        Edges.said(x, 0, 1, 2, 3, 4);
        Due.is("apart(1, 0)", x.apart(1, 0), 12);
        Due.is("apart(1, 1)", x.apart(1, 1), 4);
    }

    @Says("for n NIGHTS, 0 to 60")
    static void promise22_behindNoNightAndBehindSixty() {
        ShelfNights x = Edges.shelfBy("o+1", "n=5&p=10", 0, 0);
        Due.is("apart(60, 1)", x.apart(60, 1), 2);
        Due.is("apart(59, 1)", x.apart(59, 1), 0);
        x.page(0, 5, 10);
        Due.is("apart(0, 1)", x.apart(0, 1), 1);
        Due.is("apart(0, 0)", x.apart(0, 0), 1);
    }

    @Says("for n NIGHTS, 0 to 60")
    static void promise22_thePaneStandsForAllNights() {
        ShelfNights x = six("l", "n=1&a=7", 50, 50, 50, 50, 50, 7);
        Due.is("apart(60, 0)", x.apart(60, 0), 45);
        Due.is("apart(60, 1)", x.apart(60, 1), 1);
    }

    @Says("(All this is only thought, NIGHT beyond 9999, too.)")
    static void promise22_onlyThoughtBeyondNight9999() {
        Edges.onlyThought("apart(60, 0)", x -> x.apart(60, 0));
        Edges.onlyThought("apart(0, 1)", x -> x.apart(0, 1));
        ShelfNights x = Edges.atNight(Edges.shelfBy("o+1", "n=3&p=3", 0, 0), 9999);
        x.page(0, 3, 2);
        x.page(1, 3, 1);
        Due.is("apart(1, 1)", x.apart(1, 1), 1);
        Due.is("apart(7, 1)", x.apart(7, 1), 1);
        Due.is("apart(13, 1)", x.apart(13, 1), 0);
    }

    // ---- promise 23: stood

    private static ShelfNights withSheet(int... numbers) {
        ShelfNights x = Edges.shelfBy("l*10+r", null, 0, 0, 0);
        Edges.said(x, 0, 1, 2, 3);
        Due.sheet(x, 3, 16, numbers);
        return x;
    }

    @Says("STOOD, by a SHEET: what -1 how many rows, else the BOOK at that place of the first. BEYOND.")
    static void promise23_bookOrSheetBeyond() {
        Edges.refused("stood(-1, 0, 0, -1)", Due.BEYOND, x -> x.stood(-1, 0, 0, -1));
        Edges.refused("stood(3, 0, 0, -1) of three", Due.BEYOND, x -> x.stood(3, 0, 0, -1));
        Edges.refused("stood(MAX, 0, 0, -1)", Due.BEYOND, x -> x.stood(Edges.MAX, 0, 0, -1));
        Edges.refused("stood(0, -1, 0, -1)", Due.BEYOND, x -> x.stood(0, -1, 0, -1));
        Edges.refused("stood(0, 4, 0, -1)", Due.BEYOND, x -> x.stood(0, 4, 0, -1));
        Edges.refused("stood(0, MIN, 0, -1)", Due.BEYOND, x -> x.stood(0, Edges.MIN, 0, -1));
        Edges.refused(ShelfNights::new, "stood(0, 0, 0, -1) of none", Due.BEYOND, x -> x.stood(0, 0, 0, -1));
    }

    @Says("behind n NIGHTS (0 to 12); the first.")
    static void promise23_nBeyond() {
        Edges.refused("stood(0, 0, -1, -1)", Due.BEYOND, x -> x.stood(0, 0, -1, -1));
        Edges.refused("stood(0, 0, MIN, -1)", Due.BEYOND, x -> x.stood(0, 0, Edges.MIN, -1));
        Edges.refused("stood(0, 0, 13, -1)", Due.BEYOND, x -> x.stood(0, 0, 13, -1));
        Edges.refused("stood(0, 0, MAX, -1)", Due.BEYOND, x -> x.stood(0, 0, Edges.MAX, -1));
    }

    @Says("STOOD, by a SHEET: what -1 how many rows, else the BOOK at that place of the first. BEYOND.")
    static void promise23_whatBeyond() {
        Edges.refused("stood(0, 0, 0, -2)", Due.BEYOND, x -> x.stood(0, 0, 0, -2));
        Edges.refused("stood(0, 0, 0, MIN)", Due.BEYOND, x -> x.stood(0, 0, 0, Edges.MIN));
        Edges.refused("stood(0, 0, 0, 3) of three", Due.BEYOND, x -> x.stood(0, 0, 0, 3));
        Edges.refused("stood(0, 0, 0, MAX)", Due.BEYOND, x -> x.stood(0, 0, 0, Edges.MAX));
        Edges.refused(() -> withSheet(1, 0, 0, 0, 0, 0), "stood(0, 3, 0, 3)", Due.BEYOND, x -> x.stood(0, 3, 0, 3));
    }

    @Says("NONE: the SHEET is missing, hasn't 6 numbers; there is none.")
    static void promise23_theSheetIsMissing() {
        Edges.refused("stood(0, 3, 0, -1)", Due.NONE, x -> x.stood(0, 3, 0, -1));
        ShelfNights x = withSheet(1, 0, 0, 0, 0, 0);
        Due.is("stood(0, 3, 0, -1)", x.stood(0, 3, 0, -1), 6);
        x.sheet(3, 0, 6);
        Due.is("stood(0, 3, 0, -1), missing now", x.stood(0, 3, 0, -1), Due.NONE);
    }

    @Says("NONE: the SHEET is missing, hasn't 6 numbers; there is none.")
    static void promise23_theSheetHasNot6Numbers() {
        Edges.refused(() -> withSheet(), "stood by 0 numbers", Due.NONE, x -> x.stood(1, 3, 1, -1));
        Edges.refused(() -> withSheet(1, 0, 0, 0, 0), "stood by 5 numbers", Due.NONE, x -> x.stood(0, 3, 0, -1));
        Edges.refused(() -> withSheet(1, 0, 0, 0, 0, 0, 0), "stood by 7 numbers", Due.NONE,
            x -> x.stood(0, 3, 0, -1));
    }

    @Says("NONE: the SHEET is missing, hasn't 6 numbers; there is none.")
    static void promise23_thereIsNone() {
        Edges.refused(() -> withSheet(2, 0, 0, 0, 0, 0), "stood(0, 3, 0, -1)", Due.NONE, x -> x.stood(0, 3, 0, -1));
        Edges.refused(() -> withSheet(1, 0, 0, 0, 0, 1), "stood(0, 3, 0, 0)", Due.NONE, x -> x.stood(0, 3, 0, 0));
        Edges.refused(() -> withSheet(257, 0, 0, 0, 0, 0), "stood(0, 3, 0, 2)", Due.NONE, x -> x.stood(0, 3, 0, 2));
    }

    @Says("Each act tells its ERRORS in the order in which they are asked")
    static void promise23_beyondAheadOfNone() {
        Edges.refused("stood(3, 3, 0, -1), missing", Due.BEYOND, x -> x.stood(3, 3, 0, -1));
        Edges.refused("stood(0, 3, 13, -1), missing", Due.BEYOND, x -> x.stood(0, 3, 13, -1));
        Edges.refused("stood(0, 2, 0, 3), of 3 numbers", Due.BEYOND, x -> x.stood(0, 2, 0, 3));
    }

    @Says("how many rows of all BOOKS there are with which they are so behind n NIGHTS (0 to 12)")
    static void promise23_behindNoNightAndBehindTwelve() {
        ShelfNights x = Edges.shelfBy("o+1", null, 0, 0, 0);
        Due.sheet(x, 0, 8, 0, 0, 0, 0, 0, 0);
        Due.sheet(x, 1, 8, 2, 2, 2, 2, 2, 2);
        Due.sheet(x, 2, 8, 2, 2, 2, 2, 2, 1);
        Due.is("stood(2, 0, 0, -1)", x.stood(2, 0, 0, -1), 6);
        Due.is("stood(2, 0, 1, -1)", x.stood(2, 0, 1, -1), Due.NONE);
        Due.is("stood(2, 1, 12, -1)", x.stood(2, 1, 12, -1), 6);
        Due.is("stood(2, 2, 12, -1)", x.stood(2, 2, 12, -1), Due.NONE);
        Due.is("stood(2, 2, 11, -1)", x.stood(2, 2, 11, -1), 6);
    }

    @Says("how many rows of all BOOKS there are")
    static void promise23_all720Rows() {
        ShelfNights x = six("o", null, 1, 2, 3, 4, 5, 6);
        x.stand(5, 0);
        Due.sheet(x, 0, 32, 4, 0, 0, 0, 0, 0);
        Due.is("stood(3, 0, 12, -1)", x.stood(3, 0, 12, -1), 720);
        for (int place = 0; place < 6; place++) {
            Due.is("stood(3, 0, 12, " + place + ")", x.stood(3, 0, 12, place), place);
        }
    }

    @Says("how many rows of all BOOKS there are")
    static void promise23_theOnlyRowIsTheLastOne() {
        ShelfNights x = withSheet(31, 0, 0, 0, 0, 0);
        Due.is("stood(1, 3, 1, -1)", x.stood(1, 3, 1, -1), 1);
        for (int place = 0; place < 3; place++) {
            Due.is("stood(1, 3, 1, " + place + ")", x.stood(1, 3, 1, place), 2 - place);
        }
    }

    @Says("else the BOOK at that place of the first.")
    static void promise23_theFirstOfTwoRows() {
        // BOOK 0 right behind BOOK 1: 1 0 2, 2 1 0.
        ShelfNights x = withSheet(20, 0, 0, 0, 0, 0);
        Due.textOf(x, 0, "l*10");
        Due.is("stood(0, 3, 1, -1)", x.stood(0, 3, 1, -1), 2);
        int[] row = {1, 0, 2};
        for (int place = 0; place < 3; place++) {
            Due.is("stood(0, 3, 1, " + place + ")", x.stood(0, 3, 1, place), row[place]);
        }
    }

    @Says("a SHEET tells 6 PAGES of a BOOK")
    static void promise23_eachOfThe6Pages() {
        for (int page = 0; page < 6; page++) {
            ShelfNights x = Edges.shelf(0);
            x.page(0, page, 99);
            Due.sheet(x, 1, 8, 0, 0, 0, 0, 0, 0);
            Due.is("PAGE " + page + " isn't so", x.stood(0, 1, 0, -1), Due.NONE);
            x.put(1, page, 99);
            Due.is("PAGE " + page + " is so", x.stood(0, 1, 0, -1), 1);
        }
    }

    @Says("(All this is only thought, NIGHT beyond 9999, too.)")
    static void promise23_onlyThoughtBeyondNight9999() {
        Edges.onlyThought("stood(0, 0, 12, -1)", x -> x.stood(0, 0, 12, -1));
        Edges.onlyThought("stood(0, 0, 0, 0)", x -> x.stood(0, 0, 0, 0));
        ShelfNights x = oneAtNight9999();
        Due.pages(x, 0, 1, 1, 1, 1, 1, 1);
        Due.sheet(x, 0, 8, 2, 2, 2, 3, 2, 2);
        Due.is("stood(0, 0, 7, -1)", x.stood(0, 0, 7, -1), 1);
        Due.is("stood(0, 0, 6, -1)", x.stood(0, 0, 6, -1), Due.NONE);
    }

    // ---- promise 24: wantedBy

    @Says("WANTED: the least r. BEYOND (o, l, v 0 to 99). NONE: by none.")
    static void promise24_oBeyond() {
        Edges.refused("wantedBy(-1, 1, 1)", Due.BEYOND, x -> x.wantedBy(-1, 1, 1));
        Edges.refused("wantedBy(MIN, 1, 1)", Due.BEYOND, x -> x.wantedBy(Edges.MIN, 1, 1));
        Edges.refused("wantedBy(100, 1, 1)", Due.BEYOND, x -> x.wantedBy(100, 1, 1));
        Edges.refused("wantedBy(MAX, 1, 1)", Due.BEYOND, x -> x.wantedBy(Edges.MAX, 1, 1));
    }

    @Says("WANTED: the least r. BEYOND (o, l, v 0 to 99). NONE: by none.")
    static void promise24_lBeyond() {
        Edges.refused("wantedBy(1, -1, 1)", Due.BEYOND, x -> x.wantedBy(1, -1, 1));
        Edges.refused("wantedBy(1, MIN, 1)", Due.BEYOND, x -> x.wantedBy(1, Edges.MIN, 1));
        Edges.refused("wantedBy(1, 100, 1)", Due.BEYOND, x -> x.wantedBy(1, 100, 1));
        Edges.refused("wantedBy(1, MAX, 1)", Due.BEYOND, x -> x.wantedBy(1, Edges.MAX, 1));
    }

    @Says("WANTED: the least r. BEYOND (o, l, v 0 to 99). NONE: by none.")
    static void promise24_vBeyond() {
        Edges.refused("wantedBy(1, 1, -1)", Due.BEYOND, x -> x.wantedBy(1, 1, -1));
        Edges.refused("wantedBy(1, 1, MIN)", Due.BEYOND, x -> x.wantedBy(1, 1, Edges.MIN));
        Edges.refused("wantedBy(1, 1, 100)", Due.BEYOND, x -> x.wantedBy(1, 1, 100));
        Edges.refused("wantedBy(1, 1, MAX)", Due.BEYOND, x -> x.wantedBy(1, 1, Edges.MAX));
    }

    @Says("WANTED by o, l, v: the least r (0 to 99) with which MERGE of o, l, r is v.")
    static void promise24_leastAndGreatestR() {
        ShelfNights x = Edges.shelfBy("r", null);
        Due.is("wantedBy(5, 5, 0)", x.wantedBy(5, 5, 0), 0);
        Due.is("wantedBy(5, 5, 99)", x.wantedBy(5, 5, 99), 99);
        Due.is("wantedBy(0, 0, 1)", x.wantedBy(0, 0, 1), 1);
        Due.is("wantedBy(99, 99, 98)", x.wantedBy(99, 99, 98), 98);
    }

    @Says("WANTED by o, l, v: the least r (0 to 99) with which MERGE of o, l, r is v.")
    static void promise24_leastAndGreatestOAndL() {
        ShelfNights x = Edges.shelfBy("o-l+r", null);
        Due.is("wantedBy(0, 99, 0), held", x.wantedBy(0, 99, 0), 0);
        Due.is("wantedBy(99, 0, 99)", x.wantedBy(99, 0, 99), 0);
        Due.is("wantedBy(0, 99, 1)", x.wantedBy(0, 99, 1), Due.NONE);
        Due.is("wantedBy(0, 98, 1)", x.wantedBy(0, 98, 1), 99);
    }

    @Says("WANTED by o, l, v: the least r")
    static void promise24_theLeastOfSeveral() {
        Due.is("wantedBy(0, 0, 3)", new ShelfNights().wantedBy(0, 0, 3), 9);
        Due.is("wantedBy(0, 0, 1), by r%50", Edges.shelfBy("r%50", null).wantedBy(0, 0, 1), 1);
        Due.is("wantedBy(0, 0, 99), held", Edges.shelfBy("r*2", null).wantedBy(0, 0, 99), 50);
    }

    @Says("NONE: by none.")
    static void promise24_byNone() {
        Edges.refused(ShelfNights::new, "wantedBy(99, 98, 99)", Due.NONE, x -> x.wantedBy(99, 98, 99));
        Due.is("wantedBy(99, 99, 99)", new ShelfNights().wantedBy(99, 99, 99), 99);
        Edges.refused(ShelfNights::new, "wantedBy(0, 0, 34)", Due.NONE, x -> x.wantedBy(0, 0, 34));
        Edges.refused(() -> Edges.shelfBy("r+1", null), "wantedBy(0, 0, 0) by r+1", Due.NONE,
            x -> x.wantedBy(0, 0, 0));
    }

    @Says("Each act tells its ERRORS in the order in which they are asked")
    static void promise24_beyondAheadOfNone() {
        Edges.refused(ShelfNights::new, "wantedBy(99, 98, 100)", Due.BEYOND, x -> x.wantedBy(99, 98, 100));
        Edges.refused(ShelfNights::new, "wantedBy(100, 0, 0)", Due.BEYOND, x -> x.wantedBy(100, 0, 0));
    }

    @Says("(All this is only thought, NIGHT beyond 9999, too.)")
    static void promise24_onlyThought() {
        Edges.onlyThought("wantedBy(3, 4, 5)", x -> x.wantedBy(3, 4, 5));
    }
}
