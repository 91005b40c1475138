/** Tells answers that are not due, and ends a test. */
final class Due {
    static final int BEYOND = -1000000001;
    static final int NONE = -1000000002;
    static final int STATE = -1000000003;
    static final int FULL = -1000000004;
    static final int KIND = -1000000005;

    private static String test = "";
    private static int asked = 0;
    private static int wrong = 0;

    /** What is asked from now on is told with the name of this test. */
    static void begin(String name) {
        test = name + ": ";
    }

    static void is(String what, long got, long want) {
        asked++;
        if (got != want) {
            tellWrong(what + " answered " + got + ", due is " + want);
        }
    }

    static void is(String what, String got, String want) {
        asked++;
        if (!got.equals(want)) {
            tellWrong(what + " answered\n  " + got + ", due is\n  " + want);
        }
    }

    private static void tellWrong(String line) {
        wrong++;
        if (wrong <= 30) {
            System.out.println(test + line);
        }
    }

    static int askedSoFar() {
        return asked;
    }

    static int wrongSoFar() {
        return wrong;
    }

    static void end() {
        System.out.println(asked + " answers, " + wrong + " not as due");
        if (wrong != 0 || asked == 0) {
            System.exit(1);
        }
    }

    /** Feeds a text to THE TAPE as it would come: up to eight bytes a word, the lowest first. */
    static int feed(ShelfNights x, String text) {
        int answer = 0;
        for (int from = 0; from < text.length(); from += 8) {
            int n = Math.min(8, text.length() - from);
            long word = 0;
            for (int i = n - 1; i >= 0; i--) {
                word = word << 8 | text.charAt(from + i);
            }
            answer = x.feed(word, n);
        }
        return answer;
    }

    static int textOf(ShelfNights x, int use, String text) {
        feed(x, text);
        return x.text(use);
    }

    static void pages(ShelfNights x, int book, int... said) {
        for (int i = 0; i < said.length; i++) {
            x.page(book, i, said[i]);
        }
    }

    static void sheet(ShelfNights x, int sheet, int bits, int... numbers) {
        x.sheet(sheet, bits, numbers.length);
        for (int i = 0; i < numbers.length; i++) {
            x.put(sheet, i, numbers[i]);
        }
    }

    private Due() {
    }
}
