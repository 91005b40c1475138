/** Reads a TEXT as its grammar stands, rule by rule, and works it out as it reads. */
final class Descent {
    private static final class Fault extends RuntimeException {
        private static final long serialVersionUID = 1;
        final int place;

        Fault(int place) {
            super(null, null, false, false);
            this.place = place;
        }
    }

    private final String text;
    private final String names;
    private int at;
    private int[] values = new int[3];

    Descent(String text, String names) {
        this.text = text;
        this.names = names;
    }

    /** The FAULT, or -1. */
    int fault() {
        try {
            worth(0, 0, 0);
            return -1;
        } catch (Fault f) {
            return f.place;
        }
    }

    int worth(int a, int b, int c) {
        values = new int[] {a, b, c};
        at = 0;
        int v = readT(0);
        if (at < text.length()) {
            throw new Fault(at);
        }
        return v;
    }

    private char next() {
        return at < text.length() ? text.charAt(at) : (char) 999;
    }

    private boolean nextIs(String signs) {
        return signs.indexOf(next()) >= 0;
    }

    private int readT(int open) {
        int v = readA(open);
        while (nextIs("|")) {
            at++;
            int w = readA(open);
            v = v != 0 | w != 0 ? 1 : 0;
        }
        return v;
    }

    private int readA(int open) {
        int v = readB(open);
        while (nextIs("&")) {
            at++;
            int w = readB(open);
            v = v != 0 & w != 0 ? 1 : 0;
        }
        return v;
    }

    private int readB(int open) {
        int v = readS(open);
        if (nextIs("<=>")) {
            char sign = next();
            at++;
            int w = readS(open);
            return (sign == '<' ? v < w : sign == '=' ? v == w : v > w) ? 1 : 0;
        }
        return v;
    }

    private int readS(int open) {
        int v = readP(open);
        while (nextIs("+-")) {
            int by = next() == '+' ? 1 : -1;
            at++;
            v += by * readP(open);
        }
        return v;
    }

    private int readP(int open) {
        int v = readQ(open);
        while (nextIs("*/%")) {
            char sign = next();
            at++;
            int w = readQ(open);
            v = sign == '*' ? v * w : w == 0 ? 0 : sign == '/' ? v / w : v % w;
        }
        return v;
    }

    private int readQ(int open) {
        if (nextIs("0123456789")) {
            int v = 0;
            for (int k = 0; k < 4 && nextIs("0123456789"); k++) {
                v = 10 * v + next() - '0';
                at++;
            }
            return v;
        }
        if (nextIs(names)) {
            at++;
            return values[names.indexOf(text.charAt(at - 1))];
        }
        if (nextIs("!") && open < 5) {
            at++;
            return readQ(open + 1) == 0 ? 1 : 0;
        }
        if (nextIs("(") && open < 5) {
            at++;
            int v = readT(open + 1);
            if (!nextIs(")")) {
                throw new Fault(at);
            }
            at++;
            return v;
        }
        throw new Fault(at);
    }
}
