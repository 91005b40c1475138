import java.util.Random;

/** Runs of calls by draws, from a fixed seed, against the Model; arguments at and beyond the edges among them. */
final class AgainstModelTest {
    private static final int[] WILD = {Integer.MIN_VALUE, Integer.MIN_VALUE + 1, -1000000001, -2, -1, 100, 9999,
        Integer.MAX_VALUE - 1, Integer.MAX_VALUE};
    private static final String[] MERGES = {"l", "r", "(l+r)/2", "(o*3+l)%100", "o+(l<r)", "99-o", "(o+1)%4",
        "o*l+r", "!(l=o)*r+o/2", "l>r&o|r<9", "o", "(o+l*7+r*3)%100"};
    private static final String[] SENSES = {"a<p", "a>p&n<4", "(a+p)%2", "a=p|n=5", "p-a-n", "!(a/10-p/10)", "a*p>99"};

    private static Random random;

    public static void main(String[] args) {
        int runs = args.length > 0 ? Integer.parseInt(args[0]) : 250;
        int from = args.length > 1 ? Integer.parseInt(args[1]) : 0;
        for (int run = from; run < from + runs && Due.wrongSoFar() == 0; run++) {
            random = new Random(1000003L * run + 17);
            run(run);
        }
        Due.end();
    }

    private static void run(int run) {
        ShelfNights x = new ShelfNights();
        Model y = new Model();
        int most = 300;
        for (int i = 0; i < most && Due.wrongSoFar() == 0; i++) {
            String name = "run " + run + ", call " + i + ": ";
            if (random.nextInt(12) == 0 && i + 9 < most) {
                i += fed(x, y, name);
            } else {
                call(x, y, name, i < 20 ? random.nextInt(8) : random.nextInt(44));
            }
        }
    }

    private static int fed(ShelfNights x, Model y, String name) {
        int use = random.nextInt(2);
        String[] texts = use == 0 ? MERGES : SENSES;
        String text = texts[random.nextInt(texts.length)];
        if (random.nextInt(8) == 0) {
            text += "+-)p|".charAt(random.nextInt(5));
        }
        int calls = 0;
        for (int from = 0; from < text.length(); from += 5) {
            int n = Math.min(5, text.length() - from);
            long word = 0;
            for (int i = n - 1; i >= 0; i--) {
                word = word << 8 | text.charAt(from + i);
            }
            Due.is(name + "feed", x.feed(word, n), y.feed(word, n));
            calls++;
        }
        Due.is(name + "text(" + use + ")", x.text(use), y.text(use));
        return calls;
    }

    /** Within 0 to most, mostly; now and then one beyond, or far from all. */
    private static int v(int most) {
        int k = random.nextInt(40);
        return k == 0 ? WILD[random.nextInt(WILD.length)] : k == 1 ? most + 1 : k == 2 ? -1 : random.nextInt(most + 1);
    }

    private static int few() {
        return random.nextInt(4) > 0 ? random.nextInt(6) : v(5);
    }

    private static void call(ShelfNights x, Model y, String name, int which) {
        int b = few();
        int p = v(5);
        int s = v(3);
        int k;
        int n;
        switch (which) {
            case 0: k = v(69); is(name, "book", x.book(k), y.book(k), k); break;
            case 1: case 2: k = v(99); is(name, "page", x.page(b, p, k), y.page(b, p, k), b, p, k); break;
            case 3: is(name, "pageOf", x.pageOf(b, p), y.pageOf(b, p), b, p); break;
            case 4: k = v(6); is(name, "ofBook", x.ofBook(b, k), y.ofBook(b, k), b, k); break;
            case 5: k = v(69); is(name, "become", x.become(b, k), y.become(b, k), b, k); break;
            case 6: k = v(6); is(name, "as", x.as(b, k), y.as(b, k), b, k); break;
            case 7: k = v(1); is(name, "glass", x.glass(b, k), y.glass(b, k), b, k); break;
            case 8: k = few(); is(name, "stand", x.stand(b, k), y.stand(b, k), b, k); break;
            case 9: is(name, "at", x.at(b), y.at(b), b); break;
            case 10: n = v(8); is(name, "feed", x.feed(-1L * n, n), y.feed(-1L * n, n), n); break;
            case 11: k = v(1); is(name, "text", x.text(k), y.text(k), k); break;
            case 12: law(x, y, name); break;
            case 13: n = v(12); is(name, "nights", x.nights(n), y.nights(n), n); break;
            case 14: n = v(200); is(name, "nights", x.nights(n), y.nights(n), n); break;
            case 15: n = v(9); is(name, "readers", x.readers(n), y.readers(n), n); break;
            case 16: n = v(200); is(name, "then", x.then(n, b, p), y.then(n, b, p), n, b, p); break;
            case 17: k = v(99); is(name, "when", x.when(b, p, k), y.when(b, p, k), b, p, k); break;
            case 18: is(name, "still", x.still(), y.still()); break;
            case 19: is(name, "round", x.round(), y.round()); break;
            case 20: place(x, y, name, b, p); break;
            case 21: order(x, y, name); break;
            case 22: n = v(60); k = v(1); is(name, "apart", x.apart(n, k), y.apart(n, k), n, k); break;
            case 23: stood(x, y, name, b, s); break;
            case 24: n = v(99); k = v(99); is(name, "wantedBy", x.wantedBy(n, k, k), y.wantedBy(n, k, k), n, k, k); break;
            case 25: k = random.nextInt(); is(name, "seed", x.seed(k), y.seed(k), k); break;
            case 26: case 27: k = v(3); n = v(9); is(name, "voice", x.voice(b, k, n), y.voice(b, k, n), b, k, n); break;
            case 28: k = v(12); is(name, "trace", x.trace(k), y.trace(k), k); break;
            case 29: sheet(x, y, name, s); break;
            case 30: case 31: n = v(6); k = v(110); is(name, "put", x.put(s, n, k), y.put(s, n, k), s, n, k); break;
            case 32: put(x, y, name, s); break;
            case 33: move(x, y, name, s); break;
            case 34: is(name, "reads", x.reads(s), y.reads(s), s); break;
            case 35: is(name, "judge", x.judge(s, b), y.judge(s, b), s, b); break;
            case 36: is(name, "image", x.image(), y.image()); break;
            case 37: is(name, "restore", x.restore(), y.restore()); break;
            case 38: k = random.nextInt(3) > 0 ? x.count(2) : v(30);
                is(name, "tell", x.tell(k), y.tell(k), k); break;
            case 39: is(name, "check", x.check(), y.check()); break;
            case 40: asOnSheet(x, y, name, b, s); break;
            case 41: case 42: k = v(7); is(name, "count", x.count(k), y.count(k), k); break;
            default: k = v(5); is(name, "told", x.told(k), y.told(k), k); break;
        }
    }

    private static void law(ShelfNights x, Model y, String name) {
        int use = v(1);
        int a = random.nextBoolean() ? v(99) : random.nextInt();
        int b = random.nextBoolean() ? v(99) : random.nextInt();
        int c = v(5);
        is(name, "law", x.law(use, a, b, c), y.law(use, a, b, c), use, a, b, c);
    }

    private static void place(ShelfNights x, Model y, String name, int b, int p) {
        int v = random.nextBoolean() && b >= 0 && b < x.count(0) && p >= 0 && p < 6 ? x.then(7, b, p) : v(99);
        int n = random.nextBoolean() ? 7 : v(60);
        is(name, "place", x.place(b, p, v, n), y.place(b, p, v, n), b, p, v, n);
    }

    /** Mostly few NIGHTS, as the Model is slow here. */
    private static void order(ShelfNights x, Model y, String name) {
        int n = random.nextInt(12) == 0 ? v(12) : random.nextInt(3);
        int what = few() - 1;
        is(name, "order", x.order(n, what), y.order(n, what), n, what);
    }

    private static void stood(ShelfNights x, Model y, String name, int b, int s) {
        int n = random.nextInt(12) == 0 ? v(12) : random.nextInt(3);
        int what = few() - 1;
        is(name, "stood", x.stood(b, s, n, what), y.stood(b, s, n, what), b, s, n, what);
    }

    /** A SHEET of what the BOOK says in a while, so that stood() and judge() find something. */
    private static void asOnSheet(ShelfNights x, Model y, String name, int b, int s) {
        int after = random.nextInt(3);
        is(name, "sheet", x.sheet(s, 16, 6), y.sheet(s, 16, 6), s);
        for (int page = 0; page < 6; page++) {
            int v = x.then(after, b, page);
            is(name, "then", v, y.then(after, b, page), after, b, page);
            is(name, "put", x.put(s, page, v), y.put(s, page, v), s, page, v);
        }
        is(name, "judge", x.judge(s, b), y.judge(s, b), s, b);
        is(name, "stood", x.stood(b, s, after, -1), y.stood(b, s, after, -1), b, s, after, -1);
        is(name, "stood", x.stood(b, s, after, 1), y.stood(b, s, after, 1), b, s, after, 1);
    }

    private static void sheet(ShelfNights x, Model y, String name, int s) {
        int bits = random.nextInt(10) == 0 ? v(33) : 8 * new int[] {0, 1, 1, 2, 4}[random.nextInt(5)];
        int n = random.nextBoolean() ? 6 : v(40);
        is(name, "sheet", x.sheet(s, bits, n), y.sheet(s, bits, n), s, bits, n);
    }

    private static void put(ShelfNights x, Model y, String name, int s) {
        int i = v(39);
        int v = random.nextInt();
        is(name, "put", x.put(s, i, v), y.put(s, i, v), s, i, v);
    }

    private static void move(ShelfNights x, Model y, String name, int s) {
        int other = random.nextBoolean() ? s : v(3);
        int i = v(4);
        int j = v(4);
        int n = v(6);
        is(name, "move", x.move(s, i, other, j, n), y.move(s, i, other, j, n), s, i, other, j, n);
    }

    private static void is(String name, String call, int got, int want, int... args) {
        Due.is(name + call + java.util.Arrays.toString(args), got, want);
    }
}
