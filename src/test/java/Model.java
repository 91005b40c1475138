import java.util.ArrayList;
import java.util.List;
import java.util.TreeMap;

/** The document once more, in another make: slow, with lists and copies, for AgainstModelTest. */
final class Model {
    private static final int[] ABOVE = {-1, 0, 0, 0, 1, 2, 3};

    private static final class Volume {
        int kind;
        int m;
        boolean glass;
        int[] pages = new int[6];

        Volume copy() {
            Volume v = new Volume();
            v.kind = kind;
            v.m = m;
            v.glass = glass;
            v.pages = pages.clone();
            return v;
        }
    }

    private static final class World {
        List<Volume> books = new ArrayList<>();
        List<Integer> row = new ArrayList<>();
        int night;
        String tape = "";
        String[] texts = new String[2];
        int z = 1;
        List<Integer> waits = new ArrayList<>();

        World copy() {
            World w = new World();
            for (Volume v : books) {
                w.books.add(v.copy());
            }
            w.row = new ArrayList<>(row);
            w.night = night;
            w.tape = tape;
            w.texts = texts.clone();
            w.z = z;
            w.waits = new ArrayList<>(waits);
            return w;
        }

        int law(int use, int a, int b, int c) {
            if (use == 0) {
                int w = texts[0] == null ? (a + b + c) / 3 : new Descent(texts[0], "olr").worth(a, b, c);
                return w < 0 ? 0 : w > 99 ? 99 : w;
            }
            return texts[1] == null ? (a < b ? 1 : 0) : new Descent(texts[1], "apn").worth(a, b, c);
        }

        int sense(Volume v) {
            int s = 0;
            for (int n = 1; n <= 5; n++) {
                s += law(1, v.pages[n - 1], v.pages[n], n) != 0 ? 1 : 0;
            }
            return s;
        }

        int sense() {
            return books.stream().mapToInt(this::sense).sum();
        }

        int night(int pane) {
            int page = night % 6;
            World was = copy();
            for (int place = 0; place < row.size(); place++) {
                Volume v = books.get(row.get(place));
                if (v.glass) {
                    continue;
                }
                int o = v.pages[page];
                int l = place == pane ? o : was.said(place - 1, page, o);
                int r = place == pane - 1 ? o : was.said(place + 1, page, o);
                v.pages[page] = takes(v.kind, v.m, o, law(0, o, l, r));
            }
            night++;
            return sense();
        }

        int nights(int n, int pane) {
            for (int i = 0; i < n; i++) {
                night(pane);
            }
            return sense();
        }

        int said(int place, int page, int o) {
            if (place < 0 || place >= row.size()) {
                return o;
            }
            Volume v = books.get(row.get(place));
            return v.glass ? o : gives(v.kind, v.m, v.pages[page]);
        }

        int takes(int kind, int m, int o, int w) {
            switch (kind) {
                case 1: return (o + w) / 2;
                case 2: return o != w ? w : w + m > 99 ? 99 : w + m;
                case 4: {
                    int middle = takes(1, m, o, w);
                    return middle > o + m ? o + m : middle < o - m ? o - m : middle;
                }
                case 5: return night % 2 == 0 ? o : takes(2, m, o, w);
                case 6: return w / 10 < m ? o : w;
                default: return w;
            }
        }

        List<Integer> says() {
            List<Integer> all = new ArrayList<>();
            for (Volume v : books) {
                for (int p : v.pages) {
                    all.add(p);
                }
            }
            return all;
        }
    }

    private World now = new World();
    private World kept;
    private int images;
    private final int[] told = new int[6];
    private final List<Integer> trace = new ArrayList<>();
    private final int[][] sheets = new int[4][];
    private final int[] bits = new int[4];

    private static int gives(int kind, int m, int v) {
        switch (kind) {
            case 2: return 99 - v;
            case 3: return v < 50 ? 0 : v;
            case 5: return Math.min(99, 99 - v + m);
            case 6: return Math.min(99, gives(3, m, v) + m);
            default: return v;
        }
    }

    private int error(int k) {
        told[k]++;
        return -1000000000 - k;
    }

    private static boolean in(int v, int least, int most) {
        return least <= v && v <= most;
    }

    private boolean isBook(int book) {
        return in(book, 0, now.books.size() - 1);
    }

    int book(int km) {
        if (!in(km, 0, 69)) {
            return error(1);
        }
        if (now.books.size() == 6) {
            return error(4);
        }
        Volume v = new Volume();
        v.kind = km / 10;
        v.m = km % 10;
        now.row.add(now.books.size());
        now.books.add(v);
        return now.books.size() - 1;
    }

    int page(int book, int page, int v) {
        if (!isBook(book) || !in(page, 0, 5) || !in(v, 0, 99)) {
            return error(1);
        }
        int was = pageOf(book, page);
        now.books.get(book).pages[page] = v;
        return was;
    }

    int pageOf(int book, int page) {
        return !isBook(book) || !in(page, 0, 5) ? error(1) : now.books.get(book).pages[page];
    }

    int ofBook(int book, int what) {
        if (!isBook(book) || !in(what, 0, 6)) {
            return error(1);
        }
        Volume v = now.books.get(book);
        int[] all = {v.kind, v.m, now.row.indexOf(book), v.glass ? 1 : 0, now.sense(v), gives(v.kind, v.m, 30),
            gives(v.kind, v.m, 80)};
        return all[what];
    }

    int become(int book, int km) {
        if (!isBook(book) || !in(km, 0, 69)) {
            return error(1);
        }
        Volume v = now.books.get(book);
        int was = v.kind;
        v.kind = km / 10;
        v.m = km % 10;
        return was;
    }

    int as(int book, int kind) {
        if (!isBook(book) || !in(kind, 0, 6)) {
            return error(1);
        }
        for (int k = now.books.get(book).kind; k >= 0; k = ABOVE[k]) {
            if (k == kind) {
                return now.books.get(book).m;
            }
        }
        return error(5);
    }

    int glass(int book, int is) {
        if (!isBook(book) || !in(is, 0, 1)) {
            return error(1);
        }
        Volume v = now.books.get(book);
        int was = v.glass ? 1 : 0;
        v.glass = is == 1;
        return was;
    }

    int stand(int book, int place) {
        if (!isBook(book) || !isBook(place)) {
            return error(1);
        }
        int was = now.row.indexOf(book);
        now.row.remove(was);
        now.row.add(place, book);
        return was;
    }

    int at(int place) {
        return isBook(place) ? now.row.get(place) : error(1);
    }

    int feed(long word, int n) {
        if (!in(n, 1, 8)) {
            return error(1);
        }
        if (now.tape.length() + n > 50) {
            return error(4);
        }
        for (int i = 0; i < n; i++) {
            now.tape += (char) (word & 255);
            word >>= 8;
        }
        return now.tape.length();
    }

    int text(int use) {
        if (!in(use, 0, 1)) {
            return error(1);
        }
        int fault = new Descent(now.tape, use == 0 ? "olr" : "apn").fault();
        if (fault < 0) {
            now.texts[use] = now.tape;
        }
        now.tape = "";
        return fault < 0 ? 1 : -10 - fault;
    }

    int law(int use, int a, int b, int c) {
        return in(use, 0, 1) ? now.law(use, a, b, c) : error(1);
    }

    int nights(int n) {
        if (!in(n, 1, 200)) {
            return error(1);
        }
        return now.night + n > 9999 ? error(3) : now.nights(n, 0);
    }

    int readers(int n) {
        if (!in(n, 1, 40)) {
            return error(1);
        }
        if (now.night + n > 9999) {
            return error(3);
        }
        for (int i = 0; i < n; i++) {
            if (!now.books.isEmpty()) {
                int from = draw() % now.books.size();
                int to = draw() % now.books.size();
                now.row.add(to, now.row.remove(from));
            }
            now.night(0);
        }
        return now.sense();
    }

    private int draw() {
        now.z = now.z * 1103515245 + 12345;
        return now.z >>> 8;
    }

    int then(int n, int book, int page) {
        if (!in(n, 0, 200) || !isBook(book) || !in(page, 0, 5)) {
            return error(1);
        }
        World w = now.copy();
        w.nights(n, 0);
        return w.books.get(book).pages[page];
    }

    int when(int book, int page, int v) {
        if (!isBook(book) || !in(page, 0, 5) || !in(v, 0, 99)) {
            return error(1);
        }
        World w = now.copy();
        for (int n = 0; n <= 200; n++, w.night(0)) {
            if (w.books.get(book).pages[page] == v) {
                return n;
            }
        }
        return error(2);
    }

    int still() {
        List<List<Integer>> all = new ArrayList<>();
        World w = now.copy();
        for (int n = 0; n <= 206; n++, w.night(0)) {
            all.add(w.says());
        }
        for (int n = 0; n <= 200; n++) {
            boolean still = true;
            for (int k = 1; k <= 6; k++) {
                still &= all.get(n + k).equals(all.get(n));
            }
            if (still) {
                return n;
            }
        }
        return error(2);
    }

    int round() {
        for (int n = 6; n <= 120; n += 6) {
            World w = now.copy();
            w.nights(n, 0);
            if (w.says().equals(now.says())) {
                return n;
            }
        }
        return error(2);
    }

    int place(int book, int page, int v, int n) {
        if (!isBook(book) || !in(page, 0, 5) || !in(v, 0, 99) || !in(n, 0, 60)) {
            return error(1);
        }
        for (int place = 0; place < now.books.size(); place++) {
            World w = now.copy();
            w.row.remove((Integer) book);
            w.row.add(place, book);
            w.nights(n, 0);
            if (w.books.get(book).pages[page] == v) {
                return place;
            }
        }
        return error(2);
    }

    private void rows(List<Integer> begun, List<List<Integer>> all) {
        if (begun.size() == now.books.size()) {
            all.add(begun);
            return;
        }
        for (int book = 0; book < now.books.size(); book++) {
            if (!begun.contains(book)) {
                List<Integer> next = new ArrayList<>(begun);
                next.add(book);
                rows(next, all);
            }
        }
    }

    private TreeMap<String, World> worldsBehind(int n) {
        List<List<Integer>> all = new ArrayList<>();
        rows(new ArrayList<>(), all);
        TreeMap<String, World> worlds = new TreeMap<>();
        for (List<Integer> row : all) {
            World w = now.copy();
            w.row = row;
            w.nights(n, 0);
            worlds.put(row.toString(), w);
        }
        return worlds;
    }

    int order(int n, int what) {
        if (!in(n, 0, 12) || !in(what, -1, now.books.size() - 1)) {
            return error(1);
        }
        World best = null;
        for (World w : worldsBehind(n).values()) {
            best = best == null || w.sense() > best.sense() ? w : best;
        }
        return what < 0 ? best.sense() : best.row.get(what);
    }

    int apart(int n, int what) {
        if (!in(n, 0, 60) || !in(what, 0, 1)) {
            return error(1);
        }
        int most = -1;
        int pair = -1;
        for (int pane = now.row.size() - 1; pane > 0; pane--) {
            int sense = now.copy().nights(n, pane);
            if (sense >= most) {
                most = sense;
                pair = 10 * now.row.get(pane - 1) + now.row.get(pane);
            }
        }
        return most < 0 ? error(2) : what == 0 ? pair : most;
    }

    int stood(int book, int sheet, int n, int what) {
        if (!isBook(book) || !in(sheet, 0, 3) || !in(n, 0, 12) || !in(what, -1, now.books.size() - 1)) {
            return error(1);
        }
        if (sheets[sheet] == null || sheets[sheet].length != 6) {
            return error(2);
        }
        List<World> found = new ArrayList<>();
        for (World w : worldsBehind(n).values()) {
            if (java.util.Arrays.equals(w.books.get(book).pages, sheets[sheet])) {
                found.add(w);
            }
        }
        return found.isEmpty() ? error(2) : what < 0 ? found.size() : found.get(0).row.get(what);
    }

    int wantedBy(int o, int l, int v) {
        if (!in(o, 0, 99) || !in(l, 0, 99) || !in(v, 0, 99)) {
            return error(1);
        }
        for (int r = 0; r < 100; r++) {
            if (now.law(0, o, l, r) == v) {
                return r;
            }
        }
        return error(2);
    }

    int seed(int v) {
        int was = now.z;
        now.z = v;
        return was;
    }

    /** Which BODY a KIND, or the next above that has one, has of an act. */
    private static int bodyOf(int kind, int act) {
        String[] own = {"10 11 12 13", "20 -- -- --", "-- 30 -- --", "-- -- 40 --", "-- -- -- 50", "-- 60 -- --",
            "-- -- 70 71"};
        String body = own[kind].substring(3 * act, 3 * act + 2);
        return body.equals("--") ? bodyOf(ABOVE[kind], act) : Integer.parseInt(body);
    }

    private int speak(int book, int from, int act, int x) {
        int kind = now.books.get(book).kind;
        int body = bodyOf(from, act);
        int above = body < 20 ? -1 : ABOVE[body / 10 - 1];
        trace.add(body);
        switch (body) {
            case 10: return x + book;
            case 11: return speak(book, kind, 0, x) * 2;
            case 12: return x - now.books.get(book).m;
            case 13: return speak(book, kind, 1, x) ^ speak(book, kind, 2, x);
            case 20: return speak(book, above, 0, x) * 3;
            case 30: return speak(book, above, 1, x) - speak(book, kind, 2, 1);
            case 40: return -speak(book, above, 2, x);
            case 50: return speak(book, above, 3, x) - speak(book, kind, 0, 2);
            case 60: return speak(book, above, 1, x + 1);
            case 70: return speak(book, above, 2, x) ^ book;
            default: return speak(book, kind, 1, x) - speak(book, above, 3, x);
        }
    }

    int voice(int book, int act, int x) {
        if (!isBook(book) || !in(act, 0, 3)) {
            return error(1);
        }
        trace.clear();
        return speak(book, now.books.get(book).kind, act, x);
    }

    int trace(int i) {
        return in(i, 0, Math.min(40, trace.size()) - 1) ? trace.get(i) : error(2);
    }

    int sheet(int sheet, int itsBits, int n) {
        if (!in(sheet, 0, 3) || itsBits != 0 && itsBits != 8 && itsBits != 16 && itsBits != 32) {
            return error(1);
        }
        if (itsBits == 0) {
            sheets[sheet] = null;
            return 1;
        }
        if (n < 0) {
            return error(3);
        }
        if (n > 40) {
            return error(1);
        }
        bits[sheet] = itsBits;
        sheets[sheet] = new int[n];
        return 1;
    }

    /** With a sign here, unlike there: no answer tells which. */
    int put(int sheet, int i, int v) {
        if (!in(sheet, 0, 3)) {
            return error(1);
        }
        if (sheets[sheet] == null) {
            return error(2);
        }
        if (!in(i, 0, sheets[sheet].length - 1)) {
            return error(1);
        }
        sheets[sheet][i] = bits[sheet] == 8 ? (byte) v : bits[sheet] == 16 ? (short) v : v;
        return 1;
    }

    int move(int sheet, int i, int other, int j, int n) {
        if (!in(sheet, 0, 3) || !in(other, 0, 3)) {
            return error(1);
        }
        if (sheets[sheet] == null || sheets[other] == null) {
            return error(2);
        }
        if (bits[sheet] != bits[other]) {
            return error(5);
        }
        if (n < 0 || i < 0 || j < 0 || (long) i + n > sheets[sheet].length || (long) j + n > sheets[other].length) {
            return error(1);
        }
        int[] all = sheets[sheet].clone();
        for (int k = 0; k < n; k++) {
            sheets[other][j + k] = all[i + k];
        }
        return n;
    }

    int reads(int sheet) {
        if (!in(sheet, 0, 3)) {
            return error(1);
        }
        if (sheets[sheet] == null) {
            return error(2);
        }
        int n = 0;
        for (int v : sheets[sheet]) {
            if (!in(v, 0, 99) || !isBook(n / 6)) {
                return n;
            }
            now.books.get(n / 6).pages[n % 6] = v;
            n++;
        }
        return n;
    }

    int judge(int sheet, int book) {
        if (!in(sheet, 0, 3) || !isBook(book)) {
            return error(1);
        }
        if (sheets[sheet] == null) {
            return error(2);
        }
        for (int i = 0; i < 41; i++) {
            boolean there = i < sheets[sheet].length;
            if (there != i < 6 || there && sheets[sheet][i] != now.books.get(book).pages[i]) {
                return i;
            }
        }
        return -1;
    }

    int image() {
        kept = now.copy();
        return ++images;
    }

    int restore() {
        if (kept == null) {
            return error(2);
        }
        now = kept.copy();
        return now.night;
    }

    int tell(int v) {
        if (now.waits.size() == 20) {
            return error(4);
        }
        now.waits.add(v);
        return now.waits.size();
    }

    int check() {
        List<Integer> waits = now.waits;
        now.waits = new ArrayList<>();
        World w = now.copy();
        for (int i = 0; i < waits.size(); i++) {
            if (w.night(0) != waits.get(i)) {
                return 1 + i;
            }
        }
        return 0;
    }

    int count(int what) {
        if (!in(what, 0, 7)) {
            return error(1);
        }
        int glass = (int) now.books.stream().filter(v -> v.glass).count();
        int[] all = {now.books.size(), now.night, now.sense(), glass, now.tape.length(), now.waits.size(),
            Math.min(40, trace.size()), now.z};
        return all[what];
    }

    int told(int k) {
        return in(k, 1, 5) ? told[k] : error(1);
    }
}
