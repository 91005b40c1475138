/** Promises 16 to 24: what would be. */
final class ThoughtTest {
    public static void main(String[] args) {
        then();
        when();
        still();
        round();
        place();
        order();
        apart();
        stood();
        wantedBy();
        Due.end();
    }

    private static ShelfNights books(int... kms) {
        ShelfNights x = new ShelfNights();
        for (int km : kms) {
            x.book(km);
        }
        return x;
    }

    private static void then() {
        ShelfNights x = books(0, 0);
        Due.textOf(x, 0, "o+1");
        x.nights(2);
        Due.is("then(0, 0, 0)", x.then(0, 0, 0), 1);
        Due.is("then(4, 1, 0)", x.then(4, 1, 0), 1);
        Due.is("then(5, 1, 0)", x.then(5, 1, 0), 2);
        Due.is("then(200, 0, 1)", x.then(200, 0, 1), 34);
        Due.is("then(201, 0, 0)", x.then(201, 0, 0), Due.BEYOND);
        Due.is("then(-1, 0, 0)", x.then(-1, 0, 0), Due.BEYOND);
        Due.is("then(1, 2, 0)", x.then(1, 2, 0), Due.BEYOND);
        Due.is("then(1, 0, 6)", x.then(1, 0, 6), Due.BEYOND);
        Due.is("then(1, -1, -1)", x.then(1, -1, -1), Due.BEYOND);
        Due.is("only thought: NIGHT", x.count(1), 2);
        Due.is("only thought: page", x.pageOf(0, 1), 1);
    }

    private static void when() {
        ShelfNights x = books(0);
        Due.textOf(x, 0, "o+1");
        Due.is("when(0, 0, 0)", x.when(0, 0, 0), 0);
        Due.is("when(0, 0, 1)", x.when(0, 0, 1), 1);
        Due.is("when(0, 5, 2)", x.when(0, 5, 2), 12);
        Due.is("when(0, 1, 34)", x.when(0, 1, 34), 200);
        Due.is("when(0, 2, 34)", x.when(0, 2, 34), Due.NONE);
        Due.is("when(0, 0, 99)", x.when(0, 0, 99), Due.NONE);
        Due.is("when(0, 0, 100)", x.when(0, 0, 100), Due.BEYOND);
        Due.is("when(0, 0, -1)", x.when(0, 0, -1), Due.BEYOND);
        Due.is("when(0, 6, 0)", x.when(0, 6, 0), Due.BEYOND);
        Due.is("when(1, 0, 0)", x.when(1, 0, 0), Due.BEYOND);
        Due.is("count(1)", x.count(1), 0);
    }

    private static void still() {
        Due.is("still() without books", new ShelfNights().still(), 0);
        ShelfNights x = books(0);
        Due.pages(x, 0, 1, 2, 3, 4, 5, 6);
        Due.is("still(), alone", x.still(), 0);
        Due.textOf(x, 0, "o-1|o=1");
        Due.is("still() of ones behind NIGHTS 1 .. 6", x.still(), 6);
        Due.pages(x, 0, 1, 1, 5, 1, 1, 1);
        Due.is("still(): PAGE 2 changes in the third NIGHT", x.still(), 3);
        Due.textOf(x, 0, "o+(o<34)");
        Due.pages(x, 0, 1, 34, 34, 34, 34, 34);
        Due.is("still(): behind the last of 33 changes", x.still(), 32 * 6 + 1);
        Due.pages(x, 0, 34, 1, 34, 34, 34, 34);
        Due.is("still(): one NIGHT more", x.still(), 32 * 6 + 2);
        Due.textOf(x, 0, "o+(o<35)");
        Due.pages(x, 0, 35, 1, 35, 35, 35, 35);
        Due.is("still(): at 200", x.still(), 200);
        Due.pages(x, 0, 35, 35, 1, 35, 35, 35);
        Due.is("still(): at 201", x.still(), Due.NONE);
        Due.is("told(2)", x.told(2), 1);
    }

    private static void round() {
        Due.is("round() without books", new ShelfNights().round(), 6);
        ShelfNights x = books(0);
        Due.is("round(), nothing changes", x.round(), 6);
        Due.textOf(x, 0, "(o+1)%5");
        Due.is("round() by fives", x.round(), 30);
        Due.textOf(x, 0, "(o+1)%20");
        Due.is("round() by twenties", x.round(), 120);
        Due.textOf(x, 0, "(o+1)%21");
        Due.is("round() by twenty-ones", x.round(), Due.NONE);
        Due.textOf(x, 0, "o+(o=1)");
        Due.pages(x, 0, 1, 0, 0, 0, 0, 0);
        Due.is("round(), PAGE 0 alone is not as now", x.round(), Due.NONE);
        Due.pages(x, 0, 0, 0, 0, 0, 0, 1);
        Due.is("round(), PAGE 5 alone is not as now", x.round(), Due.NONE);
        Due.textOf(x, 0, "7");
        Due.is("round(), never again", x.round(), Due.NONE);
        Due.is("count(1)", x.count(1), 0);
    }

    private static void place() {
        ShelfNights x = books(0, 0, 0);
        Due.pages(x, 0, 10);
        Due.pages(x, 1, 20);
        Due.pages(x, 2, 30);
        Due.textOf(x, 0, "l");
        Due.is("place: at the first one it keeps its own", x.place(0, 0, 10, 1), 0);
        Due.is("place: behind 1", x.place(0, 0, 20, 1), 1);
        Due.is("place: behind 2", x.place(0, 0, 30, 1), 2);
        Due.is("place: of 2 behind 0", x.place(2, 0, 10, 1), 1);
        Due.is("place: as it says now", x.place(2, 0, 30, 0), 0);
        Due.is("place: at none", x.place(2, 0, 31, 0), Due.NONE);
        Due.is("place: n 60", x.place(2, 0, 30, 60), 0);
        Due.is("place: n 61", x.place(2, 0, 30, 61), Due.BEYOND);
        Due.is("place: n -1", x.place(2, 0, 30, -1), Due.BEYOND);
        Due.is("place: v 100", x.place(2, 0, 100, 1), Due.BEYOND);
        Due.is("place: v -1", x.place(2, 0, -1, 1), Due.BEYOND);
        Due.is("place: page 6", x.place(2, 6, 1, 1), Due.BEYOND);
        Due.is("place: book 3", x.place(3, 0, 1, 1), Due.BEYOND);
        Due.is("they stand as they stood", 100 * x.at(0) + 10 * x.at(1) + x.at(2), 12);
    }

    private static void order() {
        ShelfNights none = new ShelfNights();
        Due.is("order(5, -1) without books", none.order(5, -1), 0);
        Due.is("order(5, 0) without books", none.order(5, 0), Due.BEYOND);
        // PAGE 0 becomes that of the one behind; SENSE counts PAGES 0 of 9: 2, if the 9 stands last, behind another.
        ShelfNights x = books(0, 0, 0);
        Due.pages(x, 0, 1);
        Due.pages(x, 1, 9);
        Due.pages(x, 2, 3);
        Due.textOf(x, 0, "r");
        Due.textOf(x, 1, "n=1&a=9");
        Due.is("order(1, -1)", x.order(1, -1), 2);
        Due.is("order(1, 0)", x.order(1, 0), 0);
        Due.is("order(1, 1)", x.order(1, 1), 2);
        Due.is("order(1, 2)", x.order(1, 2), 1);
        Due.is("order(0, -1)", x.order(0, -1), 1);
        Due.is("order(0, 0), the first of all", x.order(0, 0), 0);
        Due.is("order(0, 1), the first of all", x.order(0, 1), 1);
        x.stand(2, 0);
        Due.is("order(0, 0), by BOOKS, not as they stand", x.order(0, 0), 0);
        Due.is("at(0)", x.at(0), 2);
        // PAGE 0 has its NIGHT twice: 9 goes from the end to all.
        Due.is("order(12, -1)", x.order(12, -1), 3);
        Due.is("order(12, 1)", x.order(12, 1), 2);
        Due.is("order(13, -1)", x.order(13, -1), Due.BEYOND);
        Due.is("order(-1, -1)", x.order(-1, -1), Due.BEYOND);
        Due.is("order(1, 3)", x.order(1, 3), Due.BEYOND);
        Due.is("order(1, -2)", x.order(1, -2), Due.BEYOND);
        ShelfNights six = books(0, 0, 0, 0, 0, 0);
        int[] said = {5, 3, 6, 1, 4, 2};
        for (int book = 0; book < 6; book++) {
            six.page(book, 0, said[book]);
        }
        // Only one row of 720 has each PAGE 0 one more than that ahead of it.
        Due.textOf(six, 0, "(l+1=o|l=o&o=1)*9");
        Due.textOf(six, 1, "n=1&a=9");
        Due.is("six: order(1, -1)", six.order(1, -1), 6);
        int[] row = {3, 5, 1, 4, 0, 2};
        for (int place = 0; place < 6; place++) {
            Due.is("six: order(1, " + place + ")", six.order(1, place), row[place]);
        }
    }

    private static void apart() {
        ShelfNights none = new ShelfNights();
        Due.is("apart(1, 0) without books", none.apart(1, 0), Due.NONE);
        Due.is("apart(61, 0) without books", none.apart(61, 0), Due.BEYOND);
        none.book(0);
        Due.is("apart(1, 1) of one", none.apart(1, 1), Due.NONE);
        // Row 1, 0, 2 says 5, 7, 9. SENSE counts PAGES 0 that become 3, as less stands ahead of them.
        ShelfNights x = books(0, 0, 0);
        x.stand(1, 0);
        Due.pages(x, 0, 7);
        Due.pages(x, 1, 5);
        Due.pages(x, 2, 9);
        Due.textOf(x, 0, "(l<o)*3");
        Due.textOf(x, 1, "n=1&a>2");
        // Without a pane BOOKS 0 and 2; either pane leaves one of them.
        Due.is("apart(1, 1)", x.apart(1, 1), 1);
        Due.is("apart(1, 0), the first of both", x.apart(1, 0), 10);
        Due.textOf(x, 1, "n=1&a>2|n=2&a=0");
        Due.is("apart(0, 0)", x.apart(0, 0), 10);
        Due.is("apart(0, 1)", x.apart(0, 1), 6);
        Due.textOf(x, 0, "l+r+(l>o)");
        Due.textOf(x, 1, "n=1&a=18");
        // Only with the pane between 0 and 2 has 2 its own twice.
        Due.is("apart(1, 0), the second", x.apart(1, 0), 2);
        Due.is("apart(1, 1)", x.apart(1, 1), 1);
        Due.is("apart(60, 0)", x.apart(60, 0), 10);
        Due.textOf(x, 0, "r");
        Due.textOf(x, 1, "n=1&a=7");
        // What stands behind comes ahead: 7 stays where it is only with a pane behind it, and comes to 1 as well.
        Due.is("apart(1, 0), a pane takes nothing else away", x.apart(1, 0), 2);
        Due.is("apart(1, 1)", x.apart(1, 1), 2);
        Due.is("apart(-1, 0)", x.apart(-1, 0), Due.BEYOND);
        Due.is("apart(61, 0)", x.apart(61, 0), Due.BEYOND);
        Due.is("apart(1, 2)", x.apart(1, 2), Due.BEYOND);
        Due.is("apart(1, -1)", x.apart(1, -1), Due.BEYOND);
    }

    private static void stood() {
        ShelfNights x = books(0, 0, 0);
        Due.pages(x, 0, 10);
        Due.pages(x, 1, 20);
        Due.pages(x, 2, 30);
        Due.textOf(x, 0, "l");
        Due.sheet(x, 1, 32, 20, 0, 0, 0, 0, 0);
        // BOOK 0 behind BOOK 1: rows 1 0 2, 2 1 0.
        Due.is("stood(0, 1, 1, -1)", x.stood(0, 1, 1, -1), 2);
        Due.is("stood(0, 1, 1, 0)", x.stood(0, 1, 1, 0), 1);
        Due.is("stood(0, 1, 1, 1)", x.stood(0, 1, 1, 1), 0);
        Due.is("stood(0, 1, 1, 2)", x.stood(0, 1, 1, 2), 2);
        Due.is("stood(1, 1, 0, -1)", x.stood(1, 1, 0, -1), 6);
        Due.is("stood(1, 1, 0, 2)", x.stood(1, 1, 0, 2), 2);
        x.put(1, 5, 1);
        Due.is("stood: there is none", x.stood(0, 1, 1, -1), Due.NONE);
        Due.is("stood: missing", x.stood(0, 0, 1, -1), Due.NONE);
        Due.sheet(x, 2, 8, 10, 0, 0, 0, 0);
        Due.is("stood: 5 numbers", x.stood(0, 2, 0, -1), Due.NONE);
        Due.sheet(x, 2, 8, 10, 0, 0, 0, 0, 0, 0);
        Due.is("stood: 7 numbers", x.stood(0, 2, 0, -1), Due.NONE);
        Due.is("stood: book 3", x.stood(3, 1, 0, -1), Due.BEYOND);
        Due.is("stood: sheet 4", x.stood(0, 4, 0, -1), Due.BEYOND);
        Due.is("stood: sheet -1", x.stood(0, -1, 0, -1), Due.BEYOND);
        Due.is("stood: n 13", x.stood(0, 0, 13, -1), Due.BEYOND);
        Due.is("stood: n -1", x.stood(0, 0, -1, -1), Due.BEYOND);
        Due.is("stood: what 3", x.stood(0, 0, 0, 3), Due.BEYOND);
        Due.is("stood: what -2", x.stood(0, 0, 0, -2), Due.BEYOND);
        Due.is("at(0)", x.at(0), 0);
    }

    private static void wantedBy() {
        ShelfNights x = new ShelfNights();
        Due.is("wantedBy(1, 2, 3)", x.wantedBy(1, 2, 3), 6);
        Due.is("wantedBy(0, 0, 0)", x.wantedBy(0, 0, 0), 0);
        Due.is("wantedBy(99, 99, 99)", x.wantedBy(99, 99, 99), 99);
        Due.is("wantedBy(99, 98, 99)", x.wantedBy(99, 98, 99), Due.NONE);
        Due.is("wantedBy(100, 0, 0)", x.wantedBy(100, 0, 0), Due.BEYOND);
        Due.is("wantedBy(0, -1, 0)", x.wantedBy(0, -1, 0), Due.BEYOND);
        Due.is("wantedBy(0, 0, 100)", x.wantedBy(0, 0, 100), Due.BEYOND);
        Due.textOf(x, 0, "r*2-60");
        Due.is("wantedBy, held at 0", x.wantedBy(0, 0, 0), 0);
        Due.is("wantedBy, held at 99", x.wantedBy(0, 0, 99), 80);
        Due.is("wantedBy(0, 0, 5)", x.wantedBy(0, 0, 5), Due.NONE);
        Due.is("wantedBy(0, 0, 6)", x.wantedBy(0, 0, 6), 33);
    }
}
