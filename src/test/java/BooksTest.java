/** Promises 1 to 10: a new object, books, the shelf. */
final class BooksTest {
    public static void main(String[] args) {
        newObject();
        book();
        page();
        ofBook();
        become();
        as();
        glass();
        stand();
        Due.end();
    }

    private static void newObject() {
        ShelfNights x = new ShelfNights();
        int[] counts = {0, 0, 0, 0, 0, 0, 0, 1};
        for (int i = 0; i < counts.length; i++) {
            Due.is("new: count(" + i + ")", x.count(i), counts[i]);
        }
        for (int k = 1; k <= 5; k++) {
            Due.is("new: told(" + k + ")", x.told(k), 0);
        }
        Due.is("new: at(0)", x.at(0), Due.BEYOND);
        Due.is("new: trace(0)", x.trace(0), Due.NONE);
        Due.is("new: restore()", x.restore(), Due.NONE);
        for (int s = 0; s < 4; s++) {
            Due.is("new: reads(" + s + ")", x.reads(s), Due.NONE);
        }
        Due.is("new: law(0, 1, 4, 6)", x.law(0, 1, 4, 6), 3);
        Due.is("new: law(1, 1, 2, 1)", x.law(1, 1, 2, 1), 1);
    }

    private static void book() {
        ShelfNights x = new ShelfNights();
        Due.is("book(-1)", x.book(-1), Due.BEYOND);
        Due.is("book(70)", x.book(70), Due.BEYOND);
        Due.is("book(0)", x.book(0), 0);
        Due.is("book(69)", x.book(69), 1);
        Due.is("ofBook(1, 0)", x.ofBook(1, 0), 6);
        Due.is("ofBook(1, 1)", x.ofBook(1, 1), 9);
        x.stand(0, 1);
        Due.is("book(45)", x.book(45), 2);
        Due.is("at(2)", x.at(2), 2);
        Due.is("book(10)", x.book(10), 3);
        Due.is("book(20)", x.book(20), 4);
        Due.is("book(30)", x.book(30), 5);
        Due.is("book(50), full", x.book(50), Due.FULL);
        Due.is("book(70), full", x.book(70), Due.BEYOND);
        Due.is("count(0)", x.count(0), 6);
        Due.is("told(4)", x.told(4), 1);
        for (int page = 0; page < 6; page++) {
            Due.is("pageOf(2, " + page + ")", x.pageOf(2, page), 0);
        }
    }

    private static void page() {
        ShelfNights x = new ShelfNights();
        Due.is("page(0, 0, 0), no book", x.page(0, 0, 0), Due.BEYOND);
        x.book(0);
        x.book(0);
        Due.is("page(1, 5, 99)", x.page(1, 5, 99), 0);
        Due.is("page(1, 5, 0)", x.page(1, 5, 0), 99);
        Due.is("page(0, 0, 7)", x.page(0, 0, 7), 0);
        Due.is("page(0, 0, 100)", x.page(0, 0, 100), Due.BEYOND);
        Due.is("page(0, 0, -1)", x.page(0, 0, -1), Due.BEYOND);
        Due.is("page(0, 6, 1)", x.page(0, 6, 1), Due.BEYOND);
        Due.is("page(0, -1, 1)", x.page(0, -1, 1), Due.BEYOND);
        Due.is("page(2, 0, 1)", x.page(2, 0, 1), Due.BEYOND);
        Due.is("page(-1, 0, 1)", x.page(-1, 0, 1), Due.BEYOND);
        Due.is("pageOf(0, 0)", x.pageOf(0, 0), 7);
        Due.is("pageOf(1, 5)", x.pageOf(1, 5), 0);
        Due.is("pageOf(2, 0)", x.pageOf(2, 0), Due.BEYOND);
        Due.is("pageOf(0, 6)", x.pageOf(0, 6), Due.BEYOND);
        Due.is("pageOf(0, -1)", x.pageOf(0, -1), Due.BEYOND);
        Due.is("pageOf(min, max)", x.pageOf(Integer.MIN_VALUE, Integer.MAX_VALUE), Due.BEYOND);
    }

    private static void ofBook() {
        // What each KIND gives of 30 and of 80, with m 4.
        int[] of30 = {30, 30, 69, 0, 30, 73, 4};
        int[] of80 = {80, 80, 19, 80, 80, 23, 84};
        ShelfNights x = new ShelfNights();
        x.book(0);
        for (int kind = 0; kind < 7; kind++) {
            x.become(0, 10 * kind + 4);
            Due.is("kind " + kind + ": of 30", x.ofBook(0, 5), of30[kind]);
            Due.is("kind " + kind + ": of 80", x.ofBook(0, 6), of80[kind]);
        }
        x.book(21);
        x.stand(1, 0);
        x.glass(1, 1);
        Due.pages(x, 1, 1, 2, 2, 9, 8, 30);
        int[] due = {2, 1, 0, 1, 3, 69, 19};
        for (int what = 0; what < 7; what++) {
            Due.is("ofBook(1, " + what + ")", x.ofBook(1, what), due[what]);
        }
        Due.is("ofBook(0, 2)", x.ofBook(0, 2), 1);
        Due.is("ofBook(0, 3)", x.ofBook(0, 3), 0);
        Due.is("ofBook(0, 7)", x.ofBook(0, 7), Due.BEYOND);
        Due.is("ofBook(0, -1)", x.ofBook(0, -1), Due.BEYOND);
        Due.is("ofBook(2, 0)", x.ofBook(2, 0), Due.BEYOND);
        Due.textOf(x, 1, "n=3");
        Due.is("ofBook(1, 4) by n=3", x.ofBook(1, 4), 1);
        Due.textOf(x, 1, "p-a");
        Due.is("ofBook(1, 4) by p-a", x.ofBook(1, 4), 4);
    }

    private static void become() {
        ShelfNights x = new ShelfNights();
        Due.is("become(0, 1), no book", x.become(0, 1), Due.BEYOND);
        x.book(11);
        Due.pages(x, 0, 5, 6);
        x.glass(0, 1);
        Due.is("become(0, 69)", x.become(0, 69), 1);
        Due.is("become(0, 70)", x.become(0, 70), Due.BEYOND);
        Due.is("become(0, -1)", x.become(0, -1), Due.BEYOND);
        Due.is("become(0, 0)", x.become(0, 0), 6);
        Due.is("pageOf(0, 1)", x.pageOf(0, 1), 6);
        Due.is("ofBook(0, 3)", x.ofBook(0, 3), 1);
        Due.is("ofBook(0, 1)", x.ofBook(0, 1), 0);
    }

    private static void as() {
        String[] kindsAbove = {"0", "01", "02", "03", "014", "025", "036"};
        ShelfNights x = new ShelfNights();
        Due.is("as(0, 0), no book", x.as(0, 0), Due.BEYOND);
        x.book(0);
        for (int kind = 0; kind < 7; kind++) {
            x.become(0, 10 * kind + 8);
            for (int above = 0; above < 7; above++) {
                boolean is = kindsAbove[kind].indexOf('0' + above) >= 0;
                Due.is("kind " + kind + ": as(0, " + above + ")", x.as(0, above), is ? 8 : Due.KIND);
            }
        }
        Due.is("as(0, 7)", x.as(0, 7), Due.BEYOND);
        Due.is("as(0, -1)", x.as(0, -1), Due.BEYOND);
        Due.is("as(1, 1)", x.as(1, 1), Due.BEYOND);
    }

    private static void glass() {
        ShelfNights x = new ShelfNights();
        Due.is("glass(0, 1), no book", x.glass(0, 1), Due.BEYOND);
        x.book(0);
        Due.is("glass(0, 1)", x.glass(0, 1), 0);
        Due.is("glass(0, 1) again", x.glass(0, 1), 1);
        Due.is("count(3)", x.count(3), 1);
        Due.is("glass(0, 2)", x.glass(0, 2), Due.BEYOND);
        Due.is("glass(0, -1)", x.glass(0, -1), Due.BEYOND);
        Due.is("glass(0, 0)", x.glass(0, 0), 1);
        Due.is("glass(0, 0) again", x.glass(0, 0), 0);
        Due.is("count(3)", x.count(3), 0);
    }

    private static void stand() {
        ShelfNights x = new ShelfNights();
        Due.is("stand(0, 0), no book", x.stand(0, 0), Due.BEYOND);
        for (int i = 0; i < 4; i++) {
            x.book(0);
        }
        Due.is("stand(0, 2)", x.stand(0, 2), 0);
        row(x, 1, 2, 0, 3);
        Due.is("stand(3, 0)", x.stand(3, 0), 3);
        row(x, 3, 1, 2, 0);
        Due.is("stand(2, 2)", x.stand(2, 2), 2);
        row(x, 3, 1, 2, 0);
        Due.is("stand(2, 4)", x.stand(2, 4), Due.BEYOND);
        Due.is("stand(2, -1)", x.stand(2, -1), Due.BEYOND);
        Due.is("stand(4, 0)", x.stand(4, 0), Due.BEYOND);
        Due.is("stand(-1, 0)", x.stand(-1, 0), Due.BEYOND);
        row(x, 3, 1, 2, 0);
        Due.is("at(4)", x.at(4), Due.BEYOND);
        Due.is("at(-1)", x.at(-1), Due.BEYOND);
    }

    private static void row(ShelfNights x, int... books) {
        for (int place = 0; place < books.length; place++) {
            Due.is("at(" + place + ")", x.at(place), books[place]);
            Due.is("place of " + books[place], x.ofBook(books[place], 2), place);
        }
    }
}
