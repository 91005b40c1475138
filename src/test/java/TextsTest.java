import java.util.Random;

/** Promises 11 to 13: THE TAPE, TEXTS, what they give; and the grammar, against a reader of another make. */
final class TextsTest {
    public static void main(String[] args) {
        feed();
        text();
        faults();
        law();
        worths();
        againstDescent();
        Due.end();
    }

    private static void feed() {
        ShelfNights x = new ShelfNights();
        Due.is("feed(1, 0)", x.feed(1, 0), Due.BEYOND);
        Due.is("feed(1, 9)", x.feed(1, 9), Due.BEYOND);
        Due.is("feed(1, -1)", x.feed(1, -1), Due.BEYOND);
        for (int i = 1; i <= 6; i++) {
            Due.is("feed(-1, 8)", x.feed(-1L, 8), 8 * i);
        }
        Due.is("feed(0, 3), 48 there", x.feed(0, 3), Due.FULL);
        Due.is("feed(0, 9), 48 there", x.feed(0, 9), Due.BEYOND);
        Due.is("count(4)", x.count(4), 48);
        Due.is("feed(0, 2)", x.feed(0, 2), 50);
        Due.is("feed(0, 1), 50 there", x.feed(0, 1), Due.FULL);
        Due.is("text(0) of bytes 255", x.text(0), -10);
        Due.is("count(4)", x.count(4), 0);
        // The lowest byte is the first: l+o, not o+l.
        x.feed('l' | '-' << 8 | 'o' << 16 | 'r' << 24, 3);
        Due.is("text(0)", x.text(0), 1);
        Due.is("law(0, 3, 10, 0)", x.law(0, 3, 10, 0), 7);
    }

    private static void text() {
        ShelfNights x = new ShelfNights();
        Due.is("text(0), empty", x.text(0), -10);
        Due.feed(x, "o");
        Due.is("text(2)", x.text(2), Due.BEYOND);
        Due.is("text(-1)", x.text(-1), Due.BEYOND);
        Due.is("count(4), stays", x.count(4), 1);
        Due.is("text(0)", x.text(0), 1);
        Due.is("law(0, 5, 50, 50)", x.law(0, 5, 50, 50), 5);
        Due.is("text(0), a fault", Due.textOf(x, 0, "l+"), -12);
        Due.is("count(4)", x.count(4), 0);
        Due.is("law(0, 5, 50, 50), the one ahead stays", x.law(0, 5, 50, 50), 5);
        Due.is("text(0), another", Due.textOf(x, 0, "l"), 1);
        Due.is("law(0, 5, 50, 60)", x.law(0, 5, 50, 60), 50);
        Due.is("law(1, 5, 50, 1), not touched", x.law(1, 5, 50, 1), 1);
        Due.is("told(1)", x.told(1), 2);
    }

    private static void faults() {
        fault(0, "o+l+r", -1);
        fault(0, "a", 0);
        fault(1, "o", 0);
        fault(1, "a<p&n", -1);
        fault(0, "o l", 1);
        fault(0, "+o", 0);
        fault(0, "o+-l", 2);
        fault(0, "o<l<r", 3);
        fault(0, "o<l=r", 3);
        fault(0, "o+1<l*2>r", 7);
        fault(0, "o<l&l<r|r>o", -1);
        fault(0, "(o<l)<r", -1);
        fault(0, "o<(l<r)", -1);
        fault(0, "1234", -1);
        fault(0, "12345", 4);
        fault(0, "0000", -1);
        fault(0, "12o", 2);
        fault(0, "o1", 1);
        fault(0, "(1)2", 3);
        fault(0, "oo", 1);
        fault(0, "(o", 2);
        fault(0, "o)", 1);
        fault(0, "()", 1);
        fault(0, "(o))", 3);
        fault(0, "!", 1);
        fault(0, "o!", 1);
        fault(0, "!!!!!o", -1);
        fault(0, "!!!!!!o", 5);
        fault(0, "(((((o)))))", -1);
        fault(0, "((((((o", 5);
        fault(0, "!(!(!o))", -1);
        fault(0, "!(!(!(o", 5);
        fault(0, "!!!!!o*!!!!!o", -1);
        fault(0, "(((((o+l)*2)+!1)))", -1);
        fault(0, "((((!1*!(", 8);
        fault(0, "(((((o+!", 7);
        fault(0, "1*2+3-((((((o", 11);
        fault(0, "(1*2+3-(((((o", 11);
        fault(0, "1+2+3+4+5+6+7+8+9+1+2+3+4+5+6+7+8+9+1+2+3+4+5+6+7", -1);
        fault(0, "1+2+3+4+5+6+7+8+9+1+2+3+4+5+6+7+8+9+1+2+3+4+5+6+7+", 50);
        fault(0, "o" + (char) 0, 1);
        fault(0, "o" + (char) 200, 1);
        fault(0, "" + (char) ('o' + 128), 0);
    }

    private static void fault(int use, String text, int fault) {
        Due.is("text(" + use + ") of " + text, Due.textOf(new ShelfNights(), use, text), fault < 0 ? 1 : -10 - fault);
    }

    private static void law() {
        ShelfNights x = new ShelfNights();
        Due.is("law(2, 0, 0, 0)", x.law(2, 0, 0, 0), Due.BEYOND);
        Due.is("law(-1, 0, 0, 0)", x.law(-1, 0, 0, 0), Due.BEYOND);
        Due.is("law(0, 1, 1, 3)", x.law(0, 1, 1, 3), 1);
        Due.is("law(0, 500, 0, 0)", x.law(0, 500, 0, 0), 99);
        Due.is("law(0, -500, 0, 0)", x.law(0, -500, 0, 0), 0);
        Due.is("law(0, max, 1, 0), wraps", x.law(0, Integer.MAX_VALUE, 1, 0), 0);
        Due.is("law(1, 5, 5, 1)", x.law(1, 5, 5, 1), 0);
        Due.is("law(1, min, max, 1)", x.law(1, Integer.MIN_VALUE, Integer.MAX_VALUE, 1), 1);
        Due.textOf(x, 1, "a*p-n");
        Due.is("law(1, 7, 3, 1)", x.law(1, 7, 3, 1), 20);
        Due.is("law(1, 0, 0, 1000000001)", x.law(1, 0, 0, 1000000001), -1000000001);
        Due.is("told(1), only true ERRORS", x.told(1), 2);
        Due.textOf(x, 0, "o*100+l*10+r-300");
        Due.is("law(0, 3, 2, 1)", x.law(0, 3, 2, 1), 21);
        Due.is("law(0, 2, 9, 9)", x.law(0, 2, 9, 9), 0);
        Due.is("law(0, 4, 0, 0)", x.law(0, 4, 0, 0), 99);
    }

    private static void worths() {
        int min = Integer.MIN_VALUE;
        worth("a-p-n", 10, 3, 2, 5);
        worth("a-(p-n)", 10, 3, 2, 9);
        worth("a/p*n", 7, 2, 2, 6);
        worth("a%p", -7, 3, 0, -1);
        worth("a/p", -7, 3, 0, -2);
        worth("a/p", 7, 0, 0, 0);
        worth("a%p", 7, 0, 0, 0);
        worth("a/p", min, -1, 0, min);
        worth("a%p", min, -1, 0, 0);
        worth("a*p", 65536, 65536, 0, 0);
        worth("a+p", Integer.MAX_VALUE, 1, 0, min);
        worth("a+p*n", 1, 2, 3, 7);
        worth("(a+p)*n", 1, 2, 3, 9);
        worth("a|p", 0, 4, 0, 1);
        worth("a|p", 0, 0, 0, 0);
        worth("a&p", 2, 4, 0, 1);
        worth("a&p", 2, 0, 0, 0);
        worth("a|p&n", 1, 0, 0, 1);
        worth("(a|p)&n", 1, 0, 0, 0);
        worth("a=p|n", 5, 5, 0, 1);
        worth("a<p", 5, 5, 0, 0);
        worth("a>p", 6, 5, 0, 1);
        worth("a+1>p*2", 6, 3, 0, 1);
        worth("!a", 5, 0, 0, 0);
        worth("!a", 0, 0, 0, 1);
        worth("!!a", 5, 0, 0, 1);
        worth("!a+p", 0, 7, 0, 8);
        worth("!a*p", 0, 7, 0, 7);
        worth("!(a*p)", 0, 7, 0, 1);
        worth("9999-0010", 0, 0, 0, 9989);
    }

    private static void worth(String text, int a, int b, int c, int due) {
        ShelfNights x = new ShelfNights();
        Due.is("text(1) of " + text, Due.textOf(x, 1, text), 1);
        Due.is(text + " of " + a + ", " + b + ", " + c, x.law(1, a, b, c), due);
    }

    /** Texts by draws, whole and broken, read by recursive descent, too. */
    private static void againstDescent() {
        Random random = new Random(7);
        String signs = "oollrrapn0123456789!!((())|&<=>+-*/%+-*/%&| ";
        for (int run = 0; run < 40000 && Due.wrongSoFar() == 0; run++) {
            StringBuilder text = new StringBuilder(random.nextInt(3) == 0 ? "" : whole(random, 0));
            if (random.nextBoolean()) {
                for (int k = random.nextInt(3); k >= 0; k--) {
                    text.insert(random.nextInt(text.length() + 1), signs.charAt(random.nextInt(signs.length())));
                }
            }
            text.setLength(Math.min(text.length(), 50));
            ShelfNights x = new ShelfNights();
            Descent descent = new Descent(text.toString(), "apn");
            int a = random.nextInt(7) - 3;
            int b = random.nextInt(3) == 0 ? random.nextInt() : random.nextInt(100);
            int c = random.nextInt(3);
            int fault = descent.fault();
            Due.is("text(1) of " + text, Due.textOf(x, 1, text.toString()), fault < 0 ? 1 : -10 - fault);
            if (fault < 0) {
                Due.is(text + " of " + a + ", " + b + ", " + c, x.law(1, a, b, c), descent.worth(a, b, c));
            }
        }
    }

    private static String whole(Random random, int depth) {
        int k = random.nextInt(depth > 6 ? 2 : 8);
        switch (k) {
            case 0: return "" + random.nextInt(12000);
            case 1: return "" + "apn".charAt(random.nextInt(3));
            case 2: return "!" + whole(random, depth + 1);
            case 3: return "(" + whole(random, depth + 1) + ")";
            default:
                return whole(random, depth + 2) + "|&<=>+-*/%".charAt(random.nextInt(10)) + whole(random, depth + 2);
        }
    }
}
