/** Promises 14 and 15: NIGHTS, and READERS by draws. */
final class NightsTest {
    public static void main(String[] args) {
        neighbours();
        glass();
        kinds();
        pageByPage();
        edges();
        readers();
        Due.end();
    }

    /** (o+l+r)/3 of what was said ahead of the NIGHT: the ones at the ends have themselves there. */
    private static void neighbours() {
        ShelfNights x = books(0, 0, 0);
        said(x, 0, 10, 40, 90);
        Due.is("nights(1)", x.nights(1), 0);
        says(x, 0, (10 + 10 + 40) / 3, (10 + 40 + 90) / 3, (40 + 90 + 90) / 3);
        Due.is("count(1)", x.count(1), 1);
        Due.textOf(x, 0, "l-r+50");
        said(x, 1, 10, 40, 90);
        x.stand(2, 0);
        x.nights(1);
        says(x, 1, 90 - 40 + 50, 10 - 40 + 50, 90 - 10 + 50);
    }

    private static void glass() {
        ShelfNights x = books(0, 0, 0);
        said(x, 0, 10, 40, 90);
        x.glass(1, 1);
        Due.textOf(x, 0, "r*2/l");
        x.nights(1);
        says(x, 0, 2, 40, 2);
        x.glass(1, 0);
        x.glass(2, 1);
        said(x, 1, 10, 40, 90);
        x.nights(1);
        says(x, 1, 8, 8, 90);
    }

    /** One BOOK beside a giver of 40 ahead of it: w is l. NIGHT is 0, or 1 with the same PAGES. */
    private static void kinds() {
        takes(0, 7, 10, 40, 40, 40);
        takes(1, 7, 10, 41, 25, 25);
        takes(2, 7, 10, 40, 40, 40);
        takes(2, 7, 40, 40, 47, 47);
        takes(2, 7, 97, 97, 99, 99);
        takes(3, 7, 10, 40, 40, 40);
        takes(4, 7, 10, 40, 17, 17);
        takes(4, 7, 40, 10, 33, 33);
        takes(4, 7, 10, 14, 12, 12);
        takes(4, 0, 10, 14, 10, 10);
        takes(5, 7, 10, 40, 10, 40);
        takes(5, 7, 40, 40, 40, 47);
        takes(6, 4, 10, 40, 40, 40);
        takes(6, 5, 10, 40, 10, 10);
        gives(0, 7, 30, 30);
        gives(1, 7, 30, 30);
        gives(2, 7, 30, 69);
        gives(3, 7, 49, 0);
        gives(3, 7, 50, 50);
        gives(4, 7, 30, 30);
        gives(5, 7, 30, 76);
        gives(5, 7, 0, 99);
        gives(6, 7, 49, 7);
        gives(6, 7, 50, 57);
        gives(6, 7, 95, 99);
    }

    private static void takes(int kind, int m, int o, int l, int even, int odd) {
        ShelfNights x = books(0, 10 * kind + m);
        Due.textOf(x, 0, "l");
        x.glass(0, 0);
        said(x, 0, l, o);
        said(x, 1, l, o);
        x.nights(2);
        Due.is("kind " + kind + " takes at NIGHT 0", x.pageOf(1, 0), even);
        Due.is("kind " + kind + " takes at NIGHT 1", x.pageOf(1, 1), odd);
    }

    private static void gives(int kind, int m, int v, int due) {
        ShelfNights x = books(10 * kind + m, 0);
        Due.textOf(x, 0, "l");
        said(x, 0, v, 1);
        x.nights(1);
        Due.is("kind " + kind + " gives", x.pageOf(1, 0), due);
    }

    private static void pageByPage() {
        ShelfNights x = books(0);
        Due.textOf(x, 0, "o+1");
        Due.is("nights(9)", x.nights(9), 0);
        for (int page = 0; page < 6; page++) {
            Due.is("page " + page, x.pageOf(0, page), page < 3 ? 2 : 1);
        }
        Due.textOf(x, 0, "o+10");
        Due.is("nights(2), SENSE of all", x.nights(2), 1);
    }

    private static void edges() {
        ShelfNights x = books(0);
        Due.textOf(x, 0, "o+1");
        Due.is("nights(0)", x.nights(0), Due.BEYOND);
        Due.is("nights(-1)", x.nights(-1), Due.BEYOND);
        Due.is("nights(201)", x.nights(201), Due.BEYOND);
        for (int i = 1; i < 50; i++) {
            x.nights(200);
        }
        x.image();
        Due.is("readers(40), 160 NIGHTS left", x.readers(40) + x.nights(158), 0);
        Due.is("readers(2) at 9998", x.readers(2), Due.STATE);
        Due.is("readers(1) at 9998", x.readers(1), 0);
        Due.is("count(1)", x.count(1), 9999);
        x.restore();
        Due.is("nights(200) at 9800", x.nights(200), Due.STATE);
        Due.is("nights(199) at 9800", x.nights(199), 0);
        Due.is("count(1)", x.count(1), 9999);
        Due.is("nights(1) at 9999", x.nights(1), Due.STATE);
        Due.is("nights(201) at 9999", x.nights(201), Due.BEYOND);
        Due.is("readers(1) at 9999", x.readers(1), Due.STATE);
        Due.is("readers(41) at 9999", x.readers(41), Due.BEYOND);
        Due.is("z stays", x.count(7), 1);
        Due.is("NIGHT stays", x.count(1), 9999);
        x.page(0, 9999 % 6, 5);
        Due.is("then(1, ..) goes beyond 9999", x.then(1, 0, 9999 % 6), 6);
        Due.is("then(200, ..) goes beyond 9999", x.then(200, 0, 9999 % 6), 39);
    }

    private static void readers() {
        ShelfNights none = new ShelfNights();
        Due.is("readers(3) without books", none.readers(3), 0);
        Due.is("no draws", none.count(7), 1);
        Due.is("NIGHTS still", none.count(1), 3);
        ShelfNights one = books(0);
        one.readers(1);
        Due.is("two draws for one book", one.count(7), (1103515245 + 12345) * 1103515245 + 12345);
        ShelfNights x = books(0, 0, 0);
        Due.is("readers(0)", x.readers(0), Due.BEYOND);
        Due.is("readers(41)", x.readers(41), Due.BEYOND);
        x.seed(77);
        int z = 77;
        int[] row = {0, 1, 2};
        for (int day = 0; day < 30; day++) {
            z = z * 1103515245 + 12345;
            int from = (z >>> 8) % 3;
            z = z * 1103515245 + 12345;
            int to = (z >>> 8) % 3;
            row = moved(row, from, to);
            x.readers(1);
            Due.is("z, day " + day, x.count(7), z);
            for (int place = 0; place < 3; place++) {
                Due.is("day " + day + ": at(" + place + ")", x.at(place), row[place]);
            }
        }
        Due.is("count(1)", x.count(1), 30);
        bookGoesAheadOfTheNight();
    }

    private static void bookGoesAheadOfTheNight() {
        ShelfNights x = books(0, 0);
        Due.textOf(x, 0, "l");
        said(x, 0, 3, 4);
        // z 1: the draws are odd (1 goes ..) and even (.. to 0).
        int z1 = 1103515245 + 12345;
        int z2 = z1 * 1103515245 + 12345;
        int from = (z1 >>> 8) % 2;
        int to = (z2 >>> 8) % 2;
        x.readers(1);
        boolean turned = from != to;
        Due.is("page 0 of 0", x.pageOf(0, 0), turned ? 4 : 3);
        Due.is("page 0 of 1", x.pageOf(1, 0), turned ? 4 : 3);
    }

    private static int[] moved(int[] row, int from, int to) {
        java.util.List<Integer> list = new java.util.ArrayList<>();
        for (int book : row) {
            list.add(book);
        }
        list.add(to, list.remove(from));
        return list.stream().mapToInt(i -> i).toArray();
    }

    private static ShelfNights books(int... kms) {
        ShelfNights x = new ShelfNights();
        for (int km : kms) {
            x.book(km);
        }
        return x;
    }

    private static void said(ShelfNights x, int page, int... ofBooks) {
        for (int book = 0; book < ofBooks.length; book++) {
            x.page(book, page, ofBooks[book]);
        }
    }

    private static void says(ShelfNights x, int page, int... ofBooks) {
        for (int book = 0; book < ofBooks.length; book++) {
            int due = Math.max(0, Math.min(99, ofBooks[book]));
            Due.is("page " + page + " of " + book, x.pageOf(book, page), due);
        }
    }
}
