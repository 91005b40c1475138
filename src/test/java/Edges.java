import java.lang.reflect.Method;
import java.nio.file.Files;
import java.nio.file.Path;
import java.util.ArrayList;
import java.util.Arrays;
import java.util.Comparator;
import java.util.List;
import java.util.Set;
import java.util.TreeSet;
import java.util.function.Supplier;

/**
 * Runs the tests of the boundaries: every method whose name begins with "promise" and the promise's number, each with
 * the sentence that it asks. And asks what all of them ask: that a refused call changes nothing, that a thought doesn't.
 */
final class Edges {
    static final int MIN = Integer.MIN_VALUE;
    static final int MAX = Integer.MAX_VALUE;

    private static final String[] ERRORS = {"", "BEYOND", "NONE", "STATE", "FULL", "KIND"};
    /** Which ERRORS the tests have seen, and by which promise. */
    private static final Set<String> SEEN = new TreeSet<>();

    private static int promise;

    interface Call {
        int of(ShelfNights x);
    }

    static void run(Class<?> tests, int first, int last) throws Exception {
        String document = Files.readString(Path.of("../shared/DOC.md")).replaceAll("\\s+", " ");
        Method[] methods = tests.getDeclaredMethods();
        Arrays.sort(methods, Comparator.comparing(Method::getName));
        Set<Integer> promises = new TreeSet<>();
        for (Method test : methods) {
            if (test.getName().startsWith("promise")) {
                promise = Integer.parseInt(test.getName().substring(7, 9));
                promises.add(promise);
                runTest(test, document);
            }
        }
        Due.begin(tests.getName());
        for (int due = first; due <= last; due++) {
            Due.is("a test of promise " + due, promises.contains(due) ? 1 : 0, 1);
            everyErrorIsSeen(due, document);
        }
        Due.end();
    }

    private static void runTest(Method test, String document) throws Exception {
        Says says = test.getAnnotation(Says.class);
        Due.begin(test.getName());
        Due.is("its sentence in the document", says != null && document.contains(says.value()) ? 1 : 0, 1);
        int asked = Due.askedSoFar();
        test.invoke(null);
        Due.is("answers asked", Math.min(1, Due.askedSoFar() - asked), 1);
    }

    /** Each ERROR that the document names in a promise, and no other one, was answered to a test of that promise. */
    private static void everyErrorIsSeen(int due, String document) {
        String section = document.split("## Promise " + due + ": ")[1].split("## ")[0];
        for (int k = 1; k <= 5; k++) {
            String named = ERRORS[k].equals("KIND") ? "KIND:" : ERRORS[k];
            int seen = SEEN.contains(due + ERRORS[k]) ? 1 : 0;
            Due.is(ERRORS[k] + " seen of promise " + due, seen, section.contains(named) ? 1 : 0);
        }
    }

    static ShelfNights shelf(int... kms) {
        ShelfNights x = new ShelfNights();
        for (int km : kms) {
            x.book(km);
        }
        return x;
    }

    /** With MERGE and SENSE by these TEXTS, where they aren't null. */
    static ShelfNights shelfBy(String merge, String sense, int... kms) {
        ShelfNights x = shelf(kms);
        if (merge != null) {
            Due.textOf(x, 0, merge);
        }
        if (sense != null) {
            Due.textOf(x, 1, sense);
        }
        return x;
    }

    /** BOOKS 0, 1, .. say these on that PAGE. */
    static void said(ShelfNights x, int page, int... ofBooks) {
        for (int book = 0; book < ofBooks.length; book++) {
            x.page(book, page, ofBooks[book]);
        }
    }

    static void says(ShelfNights x, int page, int... ofBooks) {
        for (int book = 0; book < ofBooks.length; book++) {
            Due.is("PAGE " + page + " of BOOK " + book, x.pageOf(book, page), ofBooks[book]);
        }
    }

    static void row(ShelfNights x, int... books) {
        for (int place = 0; place < books.length; place++) {
            Due.is("at(" + place + ")", x.at(place), books[place]);
            Due.is("the place of BOOK " + books[place], x.ofBook(books[place], 2), place);
        }
    }

    /** NIGHT comes to be night, by calls of nights(). */
    static ShelfNights atNight(ShelfNights x, int night) {
        while (x.count(1) < night) {
            x.nights(Math.min(200, night - x.count(1)));
        }
        return x;
    }

    /** Something of everything: three BOOKS (the numbers 0, 1, 2), SHEETS 0, 1, 2 of 6, 6, 3 numbers, an IMAGE. */
    static ShelfNights furnished() {
        ShelfNights x = shelf(4, 23, 65);
        Due.pages(x, 0, 11, 52, 13, 54, 15, 56);
        Due.pages(x, 1, 61, 22, 63, 24, 65, 26);
        Due.pages(x, 2, 31, 82, 33, 84, 35, 86);
        x.stand(2, 0);
        x.glass(1, 1);
        Due.textOf(x, 0, "(o+l*2+r)/4");
        Due.textOf(x, 1, "p/9-a/8+n");
        x.nights(7);
        x.tell(1);
        x.image();
        x.nights(2);
        x.page(1, 4, 77);
        x.glass(0, 1);
        x.tell(14);
        x.tell(-5);
        Due.feed(x, "o*l+");
        Due.sheet(x, 0, 8, 1, 2, 3, 4, 5, 6);
        Due.sheet(x, 1, 16, 90, 91, 92, 93, 94, 95);
        Due.sheet(x, 2, 8, 41, 42, 43);
        x.voice(1, 3, 5);
        x.seed(77);
        return x;
    }

    /** All that can be asked, but told(); it is worn out by that. */
    static String dump(ShelfNights x) {
        List<Integer> all = new ArrayList<>();
        dumpShelf(x, all);
        for (int i = 0; i < x.count(6); i++) {
            all.add(x.trace(i));
        }
        for (int sheet = 0; sheet < 4; sheet++) {
            all.add(x.reads(sheet));
            for (int page = 0; page < 6; page++) {
                all.add(x.pageOf(0, page));
            }
            all.add(x.put(sheet, 0, 256 + 9));
            all.add(x.reads(sheet));
            all.add(x.pageOf(0, 0));
        }
        all.add(x.check());
        all.add(Due.textOf(x, 0, "r"));
        dumpLaws(x, all);
        all.add(x.restore());
        dumpShelf(x, all);
        all.add(x.check());
        all.add(x.image());
        return all.toString();
    }

    private static void dumpShelf(ShelfNights x, List<Integer> all) {
        for (int what = 0; what < 8; what++) {
            all.add(x.count(what));
        }
        int books = x.count(0);
        for (int book = 0; book < books; book++) {
            all.add(x.at(book));
            for (int what = 0; what < 7; what++) {
                all.add(x.ofBook(book, what));
            }
            for (int page = 0; page < 6; page++) {
                all.add(x.pageOf(book, page));
            }
        }
        dumpLaws(x, all);
    }

    private static void dumpLaws(ShelfNights x, List<Integer> all) {
        for (int use = 0; use < 2; use++) {
            all.add(x.law(use, 3, 5, 7));
            all.add(x.law(use, 47, 2, 1));
        }
    }

    static void refused(String name, int error, Call call) {
        refused(Edges::furnished, name, error, call);
    }

    /** The call answers the ERROR, is told once, and changes nothing else. */
    static void refused(Supplier<ShelfNights> maker, String name, int error, Call call) {
        ShelfNights x = maker.get();
        ShelfNights untouched = maker.get();
        Due.is(name, call.of(x), error);
        SEEN.add(promise + ERRORS[-1000000000 - error]);
        for (int k = 1; k <= 5; k++) {
            int more = error == -1000000000 - k ? 1 : 0;
            Due.is(name + ", then told(" + k + ")", x.told(k), untouched.told(k) + more);
        }
        Due.is(name + ", then all", dump(x), dump(untouched));
    }

    static void onlyThought(String name, Call call) {
        ShelfNights x = furnished();
        call.of(x);
        Due.is(name + ", then all", dump(x), dump(furnished()));
    }

    private Edges() {
    }
}
