/** Promises 25 to 38: draws, voices, sheets, images, what is told. */
final class RestTest {
    public static void main(String[] args) {
        seed();
        voices();
        voiceEdges();
        sheet();
        put();
        move();
        reads();
        judge();
        image();
        tellAndCheck();
        count();
        told();
        Due.end();
    }

    private static void seed() {
        ShelfNights x = new ShelfNights();
        Due.is("seed(-1000000001)", x.seed(-1000000001), 1);
        Due.is("seed(7), no ERROR", x.seed(7), -1000000001);
        Due.is("count(7)", x.count(7), 7);
        Due.is("told(1)", x.told(1), 0);
    }

    /** BOOK 2 with m 3, so n is 2; x is 5: reads 7, gives 14, takes 2 as BOOK. */
    private static void voices() {
        voice(3, 0, 7, "10");
        voice(3, 1, 14, "11 10");
        voice(3, 2, 2, "12");
        voice(3, 3, 14 ^ 2, "13 11 10 12");
        voice(13, 0, 21, "20 10");
        voice(13, 1, 42, "11 20 10");
        voice(13, 3, 42 ^ 2, "13 11 20 10 12");
        voice(23, 1, 14 + 2, "30 11 10 12");
        voice(23, 3, 16 ^ 2, "13 30 11 10 12 12");
        voice(33, 2, -2, "40 12");
        voice(33, 3, 14 ^ -2, "13 11 10 40 12");
        voice(43, 3, (42 ^ 2) - 12, "50 13 11 20 10 12 20 10");
        voice(43, 0, 21, "20 10");
        voice(53, 1, 16 + 2, "60 30 11 10 12");
        voice(53, 3, 18 ^ 2, "13 60 30 11 10 12 12");
        voice(63, 2, -2 ^ 2, "70 40 12");
        voice(63, 3, 14 - (14 ^ (-2 ^ 2)), "71 11 10 13 11 10 70 40 12");
        voice(63, 1, 14, "11 10");
    }

    private static void voice(int km, int act, int due, String trace) {
        ShelfNights x = new ShelfNights();
        x.book(0);
        x.book(0);
        x.book(km);
        x.stand(2, 0);
        String call = "km " + km + ": voice(2, " + act + ", 5)";
        Due.is(call, x.voice(2, act, 5), due);
        String[] bodies = trace.split(" ");
        Due.is(call + ": BODIES", x.count(6), bodies.length);
        for (int i = 0; i < bodies.length; i++) {
            Due.is(call + ": trace(" + i + ")", x.trace(i), Integer.parseInt(bodies[i]));
        }
        Due.is(call + ": trace behind all", x.trace(bodies.length), Due.NONE);
        Due.is(call + ": trace(-1)", x.trace(-1), Due.NONE);
    }

    private static void voiceEdges() {
        ShelfNights x = new ShelfNights();
        Due.is("voice(0, 0, 0), no book", x.voice(0, 0, 0), Due.BEYOND);
        x.book(0);
        Due.is("voice(0, 1, max), goes round", x.voice(0, 1, Integer.MAX_VALUE), -2);
        Due.is("voice(0, 4, 0)", x.voice(0, 4, 0), Due.BEYOND);
        Due.is("voice(0, -1, 0)", x.voice(0, -1, 0), Due.BEYOND);
        Due.is("voice(1, 0, 0)", x.voice(1, 0, 0), Due.BEYOND);
        Due.is("THE TRACE stays", x.count(6), 2);
        Due.is("voice(0, 0, -1000000003), no ERROR", x.voice(0, 0, -1000000003), -1000000003);
        Due.is("told(3)", x.told(3), 0);
        Due.is("trace(40)", x.trace(40), Due.NONE);
    }

    private static void sheet() {
        ShelfNights x = new ShelfNights();
        x.book(0);
        Due.is("sheet(4, 8, 1)", x.sheet(4, 8, 1), Due.BEYOND);
        Due.is("sheet(-1, 8, 1)", x.sheet(-1, 8, 1), Due.BEYOND);
        Due.is("sheet(0, 9, 1)", x.sheet(0, 9, 1), Due.BEYOND);
        Due.is("sheet(0, 9, -1)", x.sheet(0, 9, -1), Due.BEYOND);
        Due.is("sheet(4, 8, -1)", x.sheet(4, 8, -1), Due.BEYOND);
        Due.is("sheet(0, 8, -1)", x.sheet(0, 8, -1), Due.STATE);
        Due.is("sheet(0, 8, 41)", x.sheet(0, 8, 41), Due.BEYOND);
        Due.is("judge(0, 0), still missing", x.judge(0, 0), Due.NONE);
        Due.is("sheet(0, 8, 40)", x.sheet(0, 8, 40), 1);
        Due.is("put(0, 39, 1)", x.put(0, 39, 1), 1);
        Due.is("sheet(0, 16, 0)", x.sheet(0, 16, 0), 1);
        Due.is("judge(0, 0), no numbers", x.judge(0, 0), 0);
        Due.is("reads(0), no numbers", x.reads(0), 0);
        Due.sheet(x, 0, 32, 5, 6, 7);
        Due.is("sheet(0, 32, 3), all 0 again", x.sheet(0, 32, 3), 1);
        Due.is("judge(0, 0)", x.judge(0, 0), 3);
        Due.is("sheet(0, 0, -5)", x.sheet(0, 0, -5), 1);
        Due.is("judge(0, 0), missing", x.judge(0, 0), Due.NONE);
        Due.is("sheet(0, 0, 99)", x.sheet(0, 0, 99), 1);
        Due.is("sheet(3, 8, 2)", x.sheet(3, 8, 2), 1);
        Due.is("sheet(0, 24, 2)", x.sheet(0, 24, 2), Due.BEYOND);
    }

    private static void put() {
        ShelfNights x = new ShelfNights();
        x.book(0);
        Due.is("put(4, 0, 1)", x.put(4, 0, 1), Due.BEYOND);
        Due.is("put(-1, 0, 1)", x.put(-1, 0, 1), Due.BEYOND);
        Due.is("put(0, -1, 1), missing", x.put(0, -1, 1), Due.NONE);
        x.sheet(0, 8, 3);
        x.sheet(1, 16, 3);
        x.sheet(2, 32, 3);
        Due.is("put(0, 3, 1)", x.put(0, 3, 1), Due.BEYOND);
        Due.is("put(0, -1, 1)", x.put(0, -1, 1), Due.BEYOND);
        for (int sheet = 0; sheet < 3; sheet++) {
            x.put(sheet, 0, 256 + 7);
            x.put(sheet, 1, 65536 + 8);
            x.put(sheet, 2, 1 << 24);
        }
        Due.is("reads(0), 8 bits", x.reads(0), 3);
        Due.is("pageOf(0, 0)", x.pageOf(0, 0), 7);
        Due.is("pageOf(0, 1)", x.pageOf(0, 1), 8);
        Due.is("reads(1), 16 bits", x.reads(1), 0);
        x.put(1, 0, -65536 + 9);
        Due.is("reads(1), 16 bits", x.reads(1), 3);
        Due.is("pageOf(0, 0)", x.pageOf(0, 0), 9);
        Due.is("reads(2), 32 bits", x.reads(2), 0);
        x.put(2, 0, 10);
        Due.is("reads(2), 32 bits", x.reads(2), 1);
    }

    private static void move() {
        ShelfNights x = new ShelfNights();
        x.book(0);
        Due.sheet(x, 0, 8, 1, 2, 3, 4, 5, 6);
        Due.sheet(x, 1, 8, 9, 9, 9);
        x.sheet(2, 16, 6);
        Due.is("move of sheet 4", x.move(4, 0, 0, 0, 1), Due.BEYOND);
        Due.is("move to sheet -1", x.move(3, 0, -1, 0, 1), Due.BEYOND);
        Due.is("move of a missing one", x.move(3, 0, 0, 0, -1), Due.NONE);
        Due.is("move to a missing one", x.move(2, 0, 3, 0, 1), Due.NONE);
        Due.is("move of unlike bits", x.move(0, 0, 2, 0, -1), Due.KIND);
        Due.is("move of n -1", x.move(0, 0, 1, 0, -1), Due.BEYOND);
        Due.is("move from -1", x.move(0, -1, 1, 0, 1), Due.BEYOND);
        Due.is("move to -1", x.move(0, 0, 1, -1, 1), Due.BEYOND);
        Due.is("move of 4 to 3", x.move(0, 0, 1, 0, 4), Due.BEYOND);
        Due.is("move to behind", x.move(0, 0, 1, 1, 3), Due.BEYOND);
        Due.is("move from behind", x.move(0, 4, 1, 0, 3), Due.BEYOND);
        Due.is("move of max", x.move(0, Integer.MAX_VALUE, 1, 1, Integer.MAX_VALUE), Due.BEYOND);
        Due.is("move of max from 1", x.move(0, 1, 1, 1, Integer.MAX_VALUE), Due.BEYOND);
        Due.is("move of none from the end", x.move(0, 6, 1, 3, 0), 0);
        Due.is("move of none from behind it", x.move(0, 7, 1, 3, 0), Due.BEYOND);
        x.reads(1);
        Due.is("nothing came", x.pageOf(0, 0) + x.pageOf(0, 2), 18);
        Due.is("move of 3", x.move(0, 3, 1, 0, 3), 3);
        shown(x, 1, 4, 5, 6);
        Due.is("move up, over itself", x.move(0, 0, 0, 1, 5), 5);
        shown(x, 0, 1, 1, 2, 3, 4, 5);
        Due.is("move down, over itself", x.move(0, 2, 0, 0, 4), 4);
        shown(x, 0, 2, 3, 4, 5, 4, 5);
    }

    private static void shown(ShelfNights x, int sheet, int... numbers) {
        Due.is("reads(" + sheet + ")", x.reads(sheet), numbers.length);
        for (int i = 0; i < numbers.length; i++) {
            Due.is("sheet " + sheet + ", number " + i, x.pageOf(0, i), numbers[i]);
        }
    }

    private static void reads() {
        ShelfNights x = new ShelfNights();
        Due.is("reads(4)", x.reads(4), Due.BEYOND);
        Due.is("reads(-1)", x.reads(-1), Due.BEYOND);
        Due.is("reads(3), missing", x.reads(3), Due.NONE);
        x.sheet(0, 8, 40);
        Due.is("reads(0) without books", x.reads(0), 0);
        x.book(0);
        x.book(0);
        x.stand(1, 0);
        x.glass(0, 1);
        for (int i = 0; i < 40; i++) {
            x.put(0, i, i + 1);
        }
        Due.is("reads(0), 12 PAGES there", x.reads(0), 12);
        Due.is("pageOf(0, 5)", x.pageOf(0, 5), 6);
        Due.is("pageOf(1, 0)", x.pageOf(1, 0), 7);
        Due.is("pageOf(1, 5)", x.pageOf(1, 5), 12);
        x.page(0, 2, 60);
        Due.sheet(x, 1, 8, 1, 2, 3, 4);
        Due.sheet(x, 1, 8, 1, 2);
        Due.is("reads(1), 2 numbers", x.reads(1), 2);
        Due.is("pageOf(0, 2), no number for it", x.pageOf(0, 2), 60);
        x.page(0, 2, 3);
        x.put(0, 0, 50);
        x.put(0, 1, 100);
        x.put(0, 2, 51);
        Due.is("reads(0) up to 100", x.reads(0), 1);
        Due.is("pageOf(0, 0)", x.pageOf(0, 0), 50);
        Due.is("pageOf(0, 2), not reached", x.pageOf(0, 2), 3);
        x.put(0, 0, -1);
        Due.is("reads(0), 255 at once", x.reads(0), 0);
        x.sheet(0, 32, 1);
        x.put(0, 0, 99);
        Due.is("reads(0), 99", x.reads(0), 1);
        x.put(0, 0, -1);
        Due.is("reads(0), -1", x.reads(0), 0);
        Due.is("told(1)", x.told(1), 2);
    }

    private static void judge() {
        ShelfNights x = new ShelfNights();
        Due.is("judge(0, 0), no book", x.judge(0, 0), Due.BEYOND);
        x.book(0);
        Due.pages(x, 0, 1, 2, 3, 4, 5, 6);
        Due.is("judge(4, 0)", x.judge(4, 0), Due.BEYOND);
        Due.is("judge(-1, 0)", x.judge(-1, 0), Due.BEYOND);
        Due.is("judge(0, 1)", x.judge(0, 1), Due.BEYOND);
        Due.is("judge(0, 0)", x.judge(0, 0), Due.NONE);
        Due.sheet(x, 0, 16, 1, 2, 3, 4, 5, 6);
        Due.is("judge(0, 0), all are", x.judge(0, 0), -1);
        x.book(0);
        x.page(1, 0, 9);
        Due.is("judge(0, 0), all are, whatever BOOK 1 says", x.judge(0, 0), -1);
        x.put(0, 0, 0);
        Due.is("judge(0, 0), the first isn't", x.judge(0, 0), 0);
        x.put(0, 0, 1);
        x.put(0, 3, 5);
        Due.is("judge(0, 0), the fourth isn't", x.judge(0, 0), 3);
        Due.sheet(x, 0, 16, 1, 2, 3, 4, 5);
        Due.is("judge(0, 0), one lacks", x.judge(0, 0), 5);
        Due.sheet(x, 0, 16, 1, 2, 3, 4, 5, 6, 7);
        Due.is("judge(0, 0), one too many", x.judge(0, 0), 6);
        x.put(0, 5, 0);
        Due.is("judge(0, 0), one is wrong ahead of it", x.judge(0, 0), 5);
    }

    private static void image() {
        ShelfNights x = new ShelfNights();
        Due.is("restore()", x.restore(), Due.NONE);
        x.book(45);
        x.book(52);
        Due.pages(x, 0, 9, 8);
        x.stand(1, 0);
        x.glass(1, 1);
        Due.textOf(x, 0, "o");
        Due.textOf(x, 1, "n=2");
        Due.feed(x, "a<");
        x.nights(7);
        x.seed(5);
        x.tell(2);
        x.tell(3);
        Due.sheet(x, 0, 8, 1);
        x.voice(0, 0, 1);
        Due.is("image()", x.image(), 1);
        x.become(0, 3);
        x.page(0, 0, 44);
        x.stand(1, 1);
        x.glass(1, 0);
        x.glass(0, 1);
        x.book(11);
        Due.pages(x, 2, 71, 72, 73, 77, 75, 76);
        Due.textOf(x, 0, "p");
        Due.textOf(x, 0, "l+1");
        Due.textOf(x, 1, "1");
        x.nights(20);
        x.seed(6);
        x.check();
        x.tell(9);
        x.put(0, 0, 33);
        x.voice(0, 3, 1);
        x.at(9);
        Due.is("restore()", x.restore(), 7);
        int[] counts = {2, 7, 2, 1, 2, 2, 4, 5};
        for (int what = 0; what < 8; what++) {
            Due.is("restored: count(" + what + ")", x.count(what), counts[what]);
        }
        Due.is("restored: kind", x.ofBook(0, 0), 4);
        Due.is("restored: m", x.ofBook(0, 1), 5);
        Due.is("restored: page", x.pageOf(0, 0), 9);
        Due.is("restored: row", x.at(0), 1);
        Due.is("restored: glass", x.ofBook(1, 3), 1);
        Due.is("restored: not under glass", x.ofBook(0, 3), 0);
        Due.is("restored: MERGE", x.law(0, 4, 8, 8), 4);
        Due.is("restored: SENSE", x.law(1, 0, 0, 2), 1);
        Due.is("restored: what waits", x.check(), 1 + 1);
        Due.is("restored: THE TAPE", Due.feed(x, "p") + 100 * x.text(1), 103);
        Due.is("kept: SHEETS", x.reads(0) + x.pageOf(0, 0), 34);
        Due.is("kept: what is told", x.told(1), 1);
        Due.is("book(0)", x.book(0), 2);
        for (int page = 0; page < 6; page++) {
            Due.is("a new BOOK has new PAGES: " + page, x.pageOf(2, page), 0);
        }
        Due.is("restore() again", x.restore(), 7);
        Due.is("restored: page", x.pageOf(0, 0), 9);
        Due.is("image(), how often is not kept", x.image(), 2);
        x.restore();
        Due.is("image(), how often is not kept", x.image(), 3);
        x.nights(1);
        x.image();
        Due.is("restore(), in place of one ahead", x.restore(), 8);
    }

    private static void tellAndCheck() {
        ShelfNights x = new ShelfNights();
        Due.is("check(), none waits", x.check(), 0);
        x.book(0);
        Due.textOf(x, 0, "o+1");
        Due.textOf(x, 1, "a=1");
        for (int i = 1; i <= 20; i++) {
            Due.is("tell", x.tell(Math.min(i, 5) - Math.max(0, Math.min(i - 6, 5))), i);
        }
        Due.is("tell, 20 wait", x.tell(1), Due.FULL);
        Due.is("count(5)", x.count(5), 20);
        Due.is("check(), all are so", x.check(), 0);
        Due.is("count(5)", x.count(5), 0);
        Due.is("only thought", x.count(1), 0);
        Due.is("tell(1)", x.tell(1), 1);
        Due.is("tell(3)", x.tell(3), 2);
        Due.is("tell(4)", x.tell(4), 3);
        Due.is("check()", x.check(), 2);
        Due.is("check(), none waits then", x.check(), 0);
        Due.is("tell(min)", x.tell(Integer.MIN_VALUE), 1);
        Due.is("check()", x.check(), 1);
    }

    private static void count() {
        ShelfNights x = new ShelfNights();
        x.book(0);
        x.book(0);
        x.glass(1, 1);
        Due.pages(x, 0, 1, 2, 3);
        Due.pages(x, 1, 0, 0, 0, 0, 0, 1);
        Due.feed(x, "abc");
        x.nights(3);
        x.tell(1);
        x.voice(0, 3, 1);
        x.seed(-2000000000);
        int[] due = {2, 3, 3, 1, 3, 1, 4, -2000000000};
        for (int what = 0; what < 8; what++) {
            Due.is("count(" + what + ")", x.count(what), due[what]);
        }
        Due.is("count(8)", x.count(8), Due.BEYOND);
        Due.is("count(-1)", x.count(-1), Due.BEYOND);
    }

    private static void told() {
        ShelfNights x = new ShelfNights();
        Due.is("told(0)", x.told(0), Due.BEYOND);
        Due.is("told(1)", x.told(1), 1);
        Due.is("told(6)", x.told(6), Due.BEYOND);
        Due.is("told(1)", x.told(1), 2);
        x.restore();
        x.sheet(0, 8, -1);
        x.sheet(0, 8, -2);
        x.book(0);
        x.as(0, 1);
        for (int i = 0; i < 8; i++) {
            x.book(0);
        }
        int[] due = {2, 1, 2, 3, 1};
        for (int k = 1; k <= 5; k++) {
            Due.is("told(" + k + ")", x.told(k), due[k - 1]);
        }
        x.image();
        x.at(9);
        x.restore();
        Due.is("told(1), not in the IMAGE", x.told(1), 3);
    }
}
