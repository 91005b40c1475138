/** Books on a shelf that read each other, a page a night. What each act must answer stands in ../shared/DOC.md. */
public final class ShelfNights {
    private static final int LOW = -1000000000;
    private static final int BEYOND = 1;
    private static final int NONE = 2;
    private static final int STATE = 3;
    private static final int FULL = 4;
    private static final int KIND = 5;

    private static final int MOST_BOOKS = 6;
    private static final int MOST_ROWS = 720;
    private static final int PAGES = 6;
    private static final int MOST_SAID = 99;
    private static final int LAST_KM = 69;
    private static final int LAST_NIGHT = 9999;
    private static final int NO_PANE = 0;
    private static final int MERGE = 0;
    private static final int SENSE = 1;
    private static final int MOST_BYTES = 50;
    private static final int MOST_OPEN = 5;
    private static final int MOST_DIGITS = 4;
    private static final int LAST_NAME = -3;
    private static final int COMPARING = 3;
    private static final int STRONGEST_JOINING = 5;
    private static final int MOST_TRACED = 40;
    private static final int SHEETS = 4;
    private static final int MOST_NUMBERS = 40;
    private static final int MOST_WAITING = 20;
    private static final int[] KIND_ABOVE = {-1, 0, 0, 0, 1, 2, 3};
    private static final int[] NAMES = {'o', 'l', 'r', 'a', 'p', 'n'};

    private final Shelf shelf;
    private final Desk desk;
    private final Shelf keptShelf;
    private final Desk keptDesk;
    private int images;
    private final Shelf thought;
    private final int[] row;
    private final int[] foundRow;
    private final Text fresh;
    private final Speaker speaker;
    private final int[] sheetBits;
    private final int[] sheetLength;
    private final int[][] sheets;
    private final int[] errors;

    public ShelfNights() {
        Kind[] kinds = {new Kind(), new Grammar(), new Poem(), new Law(), new Dictionary(), new Heresy(), new Bible()};
        shelf = new Shelf(kinds);
        desk = new Desk();
        keptShelf = new Shelf(kinds);
        keptDesk = new Desk();
        thought = new Shelf(kinds);
        row = new int[MOST_BOOKS];
        foundRow = new int[MOST_BOOKS];
        fresh = new Text();
        speaker = new Speaker();
        sheetBits = new int[SHEETS];
        sheetLength = new int[SHEETS];
        sheets = new int[SHEETS][MOST_NUMBERS];
        errors = new int[KIND + 1];
    }

    // ---- books, the shelf

    public int book(int km) {
        if (!isWithin(km, 0, LAST_KM)) {
            return error(BEYOND);
        }
        if (shelf.books >= MOST_BOOKS) {
            return error(FULL);
        }
        return shelf.addBook(km / 10, km % 10);
    }

    public int page(int book, int page, int v) {
        if (!isPageOfBook(book, page) || !isSaid(v)) {
            return error(BEYOND);
        }
        int was = shelf.said(book, page);
        shelf.pages[book * PAGES + page] = v;
        return was;
    }

    public int pageOf(int book, int page) {
        if (!isPageOfBook(book, page)) {
            return error(BEYOND);
        }
        return shelf.said(book, page);
    }

    public int ofBook(int book, int what) {
        if (!isBook(book)) {
            return error(BEYOND);
        }
        switch (what) {
            case 0: return shelf.kind[book];
            case 1: return shelf.m[book];
            case 2: return shelf.placeOf(book);
            case 3: return shelf.glass[book] ? 1 : 0;
            case 4: return shelf.senseOf(book, desk);
            case 5: return shelf.given(book, 30);
            case 6: return shelf.given(book, 80);
            default: return error(BEYOND);
        }
    }

    public int become(int book, int km) {
        if (!isBook(book) || !isWithin(km, 0, LAST_KM)) {
            return error(BEYOND);
        }
        int was = shelf.kind[book];
        shelf.kind[book] = km / 10;
        shelf.m[book] = km % 10;
        return was;
    }

    public int as(int book, int kind) {
        if (!isBook(book) || !isWithin(kind, 0, KIND_ABOVE.length - 1)) {
            return error(BEYOND);
        }
        if (!isUnder(shelf.kind[book], kind)) {
            return error(KIND);
        }
        return shelf.m[book];
    }

    public int glass(int book, int is) {
        if (!isBook(book) || !isWithin(is, 0, 1)) {
            return error(BEYOND);
        }
        int was = shelf.glass[book] ? 1 : 0;
        shelf.glass[book] = is == 1;
        return was;
    }

    public int stand(int book, int place) {
        if (!isBook(book) || !isPlace(place)) {
            return error(BEYOND);
        }
        int was = shelf.placeOf(book);
        shelf.moveBook(was, place);
        return was;
    }

    public int at(int place) {
        if (!isPlace(place)) {
            return error(BEYOND);
        }
        return shelf.row[place];
    }

    // ---- texts

    public int feed(long word, int n) {
        if (!isWithin(n, 1, 8)) {
            return error(BEYOND);
        }
        if (desk.tapeLength + n > MOST_BYTES) {
            return error(FULL);
        }
        for (int i = 0; i < n; i++) {
            desk.tape[desk.tapeLength + i] = (int) ((word >>> (8 * i)) & 255L);
        }
        desk.tapeLength += n;
        return desk.tapeLength;
    }

    public int text(int use) {
        if (!isWithin(use, MERGE, SENSE)) {
            return error(BEYOND);
        }
        int fault = fresh.readFrom(desk.tape, desk.tapeLength, use);
        desk.tapeLength = 0;
        if (fault >= 0) {
            return -10 - fault;
        }
        Text changed = use == MERGE ? desk.merge : desk.sense;
        changed.copyFrom(fresh);
        return 1;
    }

    public int law(int use, int a, int b, int c) {
        if (!isWithin(use, MERGE, SENSE)) {
            return error(BEYOND);
        }
        return use == MERGE ? desk.merged(a, b, c) : desk.sensed(a, b, c);
    }

    // ---- nights

    public int nights(int n) {
        if (!isWithin(n, 1, 200)) {
            return error(BEYOND);
        }
        if (shelf.night + n > LAST_NIGHT) {
            return error(STATE);
        }
        for (int i = 0; i < n; i++) {
            shelf.passNight(desk, NO_PANE);
        }
        return shelf.senseOfAll(desk);
    }

    public int readers(int n) {
        if (!isWithin(n, 1, 40)) {
            return error(BEYOND);
        }
        if (shelf.night + n > LAST_NIGHT) {
            return error(STATE);
        }
        for (int i = 0; i < n; i++) {
            if (shelf.books > 0) {
                int from = desk.draw() % shelf.books;
                int to = desk.draw() % shelf.books;
                shelf.moveBook(from, to);
            }
            shelf.passNight(desk, NO_PANE);
        }
        return shelf.senseOfAll(desk);
    }

    // ---- what would be

    public int then(int n, int book, int page) {
        if (!isWithin(n, 0, 200) || !isPageOfBook(book, page)) {
            return error(BEYOND);
        }
        thought.copyFrom(shelf);
        thinkNights(n, NO_PANE);
        return thought.said(book, page);
    }

    public int when(int book, int page, int v) {
        if (!isPageOfBook(book, page) || !isSaid(v)) {
            return error(BEYOND);
        }
        thought.copyFrom(shelf);
        for (int n = 0; n <= 200; n++) {
            if (thought.said(book, page) == v) {
                return n;
            }
            thought.passNight(desk, NO_PANE);
        }
        return error(NONE);
    }

    public int still() {
        thought.copyFrom(shelf);
        int unchanged = 0;
        for (int n = 1; n <= 206; n++) {
            boolean changed = thought.passNight(desk, NO_PANE);
            unchanged = changed ? 0 : unchanged + 1;
            if (unchanged == 6) {
                return n - 6;
            }
        }
        return error(NONE);
    }

    public int round() {
        thought.copyFrom(shelf);
        for (int n = 6; n <= 120; n += 6) {
            thinkNights(6, NO_PANE);
            if (thought.saysAs(shelf)) {
                return n;
            }
        }
        return error(NONE);
    }

    public int place(int book, int page, int v, int n) {
        if (!isPageOfBook(book, page) || !isSaid(v) || !isWithin(n, 0, 60)) {
            return error(BEYOND);
        }
        for (int place = 0; place < shelf.books; place++) {
            thought.copyFrom(shelf);
            thought.moveBook(thought.placeOf(book), place);
            thinkNights(n, NO_PANE);
            if (thought.said(book, page) == v) {
                return place;
            }
        }
        return error(NONE);
    }

    public int order(int n, int what) {
        if (!isWithin(n, 0, 12) || !isRowQuestion(what)) {
            return error(BEYOND);
        }
        int most = findBestRow(n);
        return what < 0 ? most : foundRow[what];
    }

    public int apart(int n, int what) {
        if (!isWithin(n, 0, 60) || !isWithin(what, 0, 1)) {
            return error(BEYOND);
        }
        int most = -1;
        int pair = 0;
        for (int pane = 1; pane < shelf.books; pane++) {
            thought.copyFrom(shelf);
            thinkNights(n, pane);
            int sense = thought.senseOfAll(desk);
            if (sense > most) {
                most = sense;
                pair = 10 * shelf.row[pane - 1] + shelf.row[pane];
            }
        }
        if (most < 0) {
            return error(NONE);
        }
        return what == 0 ? pair : most;
    }

    public int stood(int book, int sheet, int n, int what) {
        if (!isBook(book) || !isSheet(sheet) || !isWithin(n, 0, 12) || !isRowQuestion(what)) {
            return error(BEYOND);
        }
        if (isMissing(sheet) || sheetLength[sheet] != PAGES) {
            return error(NONE);
        }
        int rows = findRowsBy(book, sheet, n);
        if (rows == 0) {
            return error(NONE);
        }
        return what < 0 ? rows : foundRow[what];
    }

    public int wantedBy(int o, int l, int v) {
        if (!isSaid(o) || !isSaid(l) || !isSaid(v)) {
            return error(BEYOND);
        }
        for (int r = 0; r <= MOST_SAID; r++) {
            if (desk.merged(o, l, r) == v) {
                return r;
            }
        }
        return error(NONE);
    }

    // ---- draws, voices, sheets, images, what is told

    public int seed(int v) {
        int was = desk.z;
        desk.z = v;
        return was;
    }

    public int voice(int book, int act, int x) {
        if (!isBook(book) || !isWithin(act, 0, 3)) {
            return error(BEYOND);
        }
        speaker.begin(book, shelf.m[book]);
        Kind kind = shelf.kindOf(book);
        switch (act) {
            case 0: return kind.sayReads(speaker, x);
            case 1: return kind.sayGives(speaker, x);
            case 2: return kind.sayTakes(speaker, x);
            default: return kind.sayTells(speaker, x);
        }
    }

    public int trace(int i) {
        if (!isWithin(i, 0, speaker.traced - 1)) {
            return error(NONE);
        }
        return speaker.bodies[i];
    }

    public int sheet(int sheet, int bits, int n) {
        if (!isSheet(sheet) || (bits != 0 && bits != 8 && bits != 16 && bits != 32)) {
            return error(BEYOND);
        }
        if (bits != 0 && n < 0) {
            return error(STATE);
        }
        if (bits != 0 && n > MOST_NUMBERS) {
            return error(BEYOND);
        }
        int length = bits == 0 ? 0 : n;
        sheetBits[sheet] = bits;
        sheetLength[sheet] = length;
        for (int i = 0; i < length; i++) {
            sheets[sheet][i] = 0;
        }
        return 1;
    }

    public int put(int sheet, int i, int v) {
        if (!isSheet(sheet)) {
            return error(BEYOND);
        }
        if (isMissing(sheet)) {
            return error(NONE);
        }
        if (!isWithin(i, 0, sheetLength[sheet] - 1)) {
            return error(BEYOND);
        }
        sheets[sheet][i] = lowestBits(v, sheetBits[sheet]);
        return 1;
    }

    public int move(int sheet, int i, int other, int j, int n) {
        if (!isSheet(sheet) || !isSheet(other)) {
            return error(BEYOND);
        }
        if (isMissing(sheet) || isMissing(other)) {
            return error(NONE);
        }
        if (sheetBits[sheet] != sheetBits[other]) {
            return error(KIND);
        }
        if (!standThere(sheet, i, n) || !standThere(other, j, n)) {
            return error(BEYOND);
        }
        System.arraycopy(sheets[sheet], i, sheets[other], j, n);
        return n;
    }

    public int reads(int sheet) {
        if (!isSheet(sheet)) {
            return error(BEYOND);
        }
        if (isMissing(sheet)) {
            return error(NONE);
        }
        int most = Math.min(sheetLength[sheet], shelf.books * PAGES);
        for (int i = 0; i < most; i++) {
            int v = sheets[sheet][i];
            if (!isSaid(v)) {
                return i;
            }
            shelf.pages[i] = v;
        }
        return most;
    }

    public int judge(int sheet, int book) {
        if (!isSheet(sheet) || !isBook(book)) {
            return error(BEYOND);
        }
        if (isMissing(sheet)) {
            return error(NONE);
        }
        int both = Math.min(sheetLength[sheet], PAGES);
        for (int i = 0; i < both; i++) {
            if (sheets[sheet][i] != shelf.said(book, i)) {
                return i;
            }
        }
        return sheetLength[sheet] == PAGES ? -1 : both;
    }

    public int image() {
        keptShelf.copyFrom(shelf);
        keptDesk.copyFrom(desk);
        images++;
        return images;
    }

    public int restore() {
        if (images == 0) {
            return error(NONE);
        }
        shelf.copyFrom(keptShelf);
        desk.copyFrom(keptDesk);
        return shelf.night;
    }

    public int tell(int v) {
        if (desk.waiting >= MOST_WAITING) {
            return error(FULL);
        }
        desk.waits[desk.waiting] = v;
        desk.waiting++;
        return desk.waiting;
    }

    public int check() {
        int numbers = desk.waiting;
        desk.waiting = 0;
        thought.copyFrom(shelf);
        for (int i = 0; i < numbers; i++) {
            thought.passNight(desk, NO_PANE);
            if (thought.senseOfAll(desk) != desk.waits[i]) {
                return 1 + i;
            }
        }
        return 0;
    }

    public int count(int what) {
        switch (what) {
            case 0: return shelf.books;
            case 1: return shelf.night;
            case 2: return shelf.senseOfAll(desk);
            case 3: return shelf.underGlass();
            case 4: return desk.tapeLength;
            case 5: return desk.waiting;
            case 6: return speaker.traced;
            case 7: return desk.z;
            default: return error(BEYOND);
        }
    }

    public int told(int k) {
        if (!isWithin(k, BEYOND, KIND)) {
            return error(BEYOND);
        }
        return errors[k];
    }

    // ---- what the acts ask

    /** Every ERROR goes through here, and nothing else does, so that told() counts no number that only looks like one. */
    private int error(int k) {
        errors[k]++;
        return LOW - k;
    }

    private static boolean isWithin(int v, int least, int most) {
        return v >= least && v <= most;
    }

    private static boolean isSaid(int v) {
        return isWithin(v, 0, MOST_SAID);
    }

    private boolean isBook(int book) {
        return isWithin(book, 0, shelf.books - 1);
    }

    private boolean isPageOfBook(int book, int page) {
        return isBook(book) && isWithin(page, 0, PAGES - 1);
    }

    private boolean isPlace(int place) {
        return isWithin(place, 0, shelf.books - 1);
    }

    private boolean isRowQuestion(int what) {
        return what == -1 || isPlace(what);
    }

    private static boolean isSheet(int sheet) {
        return isWithin(sheet, 0, SHEETS - 1);
    }

    private boolean isMissing(int sheet) {
        return sheetBits[sheet] == 0;
    }

    /** i is compared with what n leaves, as their sum might wrap. */
    private boolean standThere(int sheet, int i, int n) {
        return n >= 0 && i >= 0 && n <= sheetLength[sheet] && i <= sheetLength[sheet] - n;
    }

    /** Without a sign: what would be below 0 with one is no PAGE's number either way. */
    private static int lowestBits(int v, int bits) {
        if (bits == 8) {
            return v & 255;
        }
        return bits == 16 ? v & 65535 : v;
    }

    private static boolean isUnder(int kind, int above) {
        int k = kind;
        for (int step = 0; step < KIND_ABOVE.length && isWithin(k, 0, KIND_ABOVE.length - 1); step++) {
            if (k == above) {
                return true;
            }
            k = KIND_ABOVE[k];
        }
        return false;
    }

    // ---- what is only thought

    private void thinkNights(int n, int pane) {
        for (int i = 0; i < n; i++) {
            thought.passNight(desk, pane);
        }
    }

    private void thinkRow(int n) {
        thought.copyFrom(shelf);
        System.arraycopy(row, 0, thought.row, 0, MOST_BOOKS);
        thinkNights(n, NO_PANE);
    }

    /** SENSE of the best row, which foundRow tells then. */
    private int findBestRow(int n) {
        beginRows();
        int most = -1;
        boolean more = true;
        for (int k = 0; more && k < MOST_ROWS; k++) {
            thinkRow(n);
            int sense = thought.senseOfAll(desk);
            if (sense > most) {
                most = sense;
                System.arraycopy(row, 0, foundRow, 0, MOST_BOOKS);
            }
            more = nextRow();
        }
        return most;
    }

    /** How many rows bring the BOOK to what the SHEET says; foundRow tells the first of them. */
    private int findRowsBy(int book, int sheet, int n) {
        beginRows();
        int rows = 0;
        boolean more = true;
        for (int k = 0; more && k < MOST_ROWS; k++) {
            thinkRow(n);
            if (isAsOnSheet(book, sheet)) {
                if (rows == 0) {
                    System.arraycopy(row, 0, foundRow, 0, MOST_BOOKS);
                }
                rows++;
            }
            more = nextRow();
        }
        return rows;
    }

    private boolean isAsOnSheet(int book, int sheet) {
        for (int i = 0; i < PAGES; i++) {
            if (thought.said(book, i) != sheets[sheet][i]) {
                return false;
            }
        }
        return true;
    }

    private void beginRows() {
        for (int i = 0; i < MOST_BOOKS; i++) {
            row[i] = i;
        }
    }

    /** The next row by BOOKS from place 0 on; false behind the last one. */
    private boolean nextRow() {
        int i = shelf.books - 2;
        while (i >= 0 && row[i] > row[i + 1]) {
            i--;
        }
        if (i < 0) {
            return false;
        }
        int j = shelf.books - 1;
        while (j > i && row[j] < row[i]) {
            j--;
        }
        swapInRow(i, j);
        int left = i + 1;
        int right = shelf.books - 1;
        while (left < right) {
            swapInRow(left, right);
            left++;
            right--;
        }
        return true;
    }

    private void swapInRow(int i, int j) {
        int book = row[i];
        row[i] = row[j];
        row[j] = book;
    }

    // ---- kinds

    /** The KIND BOOK; each KIND under it says only what it does in another way. */
    private static class Kind {
        int given(int v, int m) {
            return v;
        }

        int taken(int o, int w, int m, int night) {
            return w;
        }

        int sayReads(Speaker s, int x) {
            s.note(10);
            return x + s.number;
        }

        int sayGives(Speaker s, int x) {
            s.note(11);
            return sayReads(s, x) * 2;
        }

        int sayTakes(Speaker s, int x) {
            s.note(12);
            return x - s.m;
        }

        int sayTells(Speaker s, int x) {
            s.note(13);
            return sayGives(s, x) ^ sayTakes(s, x);
        }
    }

    private static class Grammar extends Kind {
        int taken(int o, int w, int m, int night) {
            return (o + w) / 2;
        }

        int sayReads(Speaker s, int x) {
            s.note(20);
            return super.sayReads(s, x) * 3;
        }
    }

    private static class Poem extends Kind {
        int given(int v, int m) {
            return MOST_SAID - v;
        }

        int taken(int o, int w, int m, int night) {
            return w == o ? Math.min(MOST_SAID, w + m) : w;
        }

        int sayGives(Speaker s, int x) {
            s.note(30);
            return super.sayGives(s, x) - sayTakes(s, 1);
        }
    }

    private static class Law extends Kind {
        int given(int v, int m) {
            return v >= 50 ? v : 0;
        }

        int sayTakes(Speaker s, int x) {
            s.note(40);
            return -super.sayTakes(s, x);
        }
    }

    private static final class Dictionary extends Grammar {
        int taken(int o, int w, int m, int night) {
            return Math.max(o - m, Math.min(o + m, super.taken(o, w, m, night)));
        }

        int sayTells(Speaker s, int x) {
            s.note(50);
            return super.sayTells(s, x) - sayReads(s, 2);
        }
    }

    private static final class Heresy extends Poem {
        int given(int v, int m) {
            return Math.min(MOST_SAID, super.given(v, m) + m);
        }

        int taken(int o, int w, int m, int night) {
            return night % 2 == 1 ? super.taken(o, w, m, night) : o;
        }

        int sayGives(Speaker s, int x) {
            s.note(60);
            return super.sayGives(s, x + 1);
        }
    }

    private static final class Bible extends Law {
        int given(int v, int m) {
            return Math.min(MOST_SAID, super.given(v, m) + m);
        }

        int taken(int o, int w, int m, int night) {
            return w < 10 * m ? o : super.taken(o, w, m, night);
        }

        int sayTakes(Speaker s, int x) {
            s.note(70);
            return super.sayTakes(s, x) ^ s.number;
        }

        int sayTells(Speaker s, int x) {
            s.note(71);
            return sayGives(s, x) - super.sayTells(s, x);
        }
    }

    /** Whose VOICE it is, and THE TRACE of it. */
    private static final class Speaker {
        private final int[] bodies = new int[MOST_TRACED];
        private int traced;
        private int number;
        private int m;

        void begin(int itsNumber, int itsM) {
            number = itsNumber;
            m = itsM;
            traced = 0;
        }

        void note(int body) {
            if (traced < MOST_TRACED) {
                bodies[traced] = body;
                traced++;
            }
        }
    }

    /** All BOOKS as they are and stand, and NIGHT. One that is only thought is another Shelf. */
    private static final class Shelf {
        private final Kind[] kinds;
        private final int[] kind = new int[MOST_BOOKS];
        private final int[] m = new int[MOST_BOOKS];
        private final boolean[] glass = new boolean[MOST_BOOKS];
        private final int[] pages = new int[MOST_BOOKS * PAGES];
        private final int[] row = new int[MOST_BOOKS];
        private final int[] gives = new int[MOST_BOOKS];
        private int books;
        private int night;

        Shelf(Kind[] kinds) {
            this.kinds = kinds;
        }

        void copyFrom(Shelf other) {
            System.arraycopy(other.kind, 0, kind, 0, MOST_BOOKS);
            System.arraycopy(other.m, 0, m, 0, MOST_BOOKS);
            for (int i = 0; i < MOST_BOOKS; i++) {
                glass[i] = other.glass[i];
            }
            System.arraycopy(other.pages, 0, pages, 0, MOST_BOOKS * PAGES);
            System.arraycopy(other.row, 0, row, 0, MOST_BOOKS);
            books = other.books;
            night = other.night;
        }

        /** Its PAGES and GLASS are as at first already, as copyFrom() copies those of BOOKS that are not there, too. */
        int addBook(int itsKind, int itsM) {
            int book = books;
            kind[book] = itsKind;
            m[book] = itsM;
            row[book] = book;
            books++;
            return book;
        }

        Kind kindOf(int book) {
            return kinds[kind[book]];
        }

        int said(int book, int page) {
            return pages[book * PAGES + page];
        }

        int given(int book, int v) {
            return kindOf(book).given(v, m[book]);
        }

        boolean saysAs(Shelf other) {
            for (int i = 0; i < books * PAGES; i++) {
                if (pages[i] != other.pages[i]) {
                    return false;
                }
            }
            return true;
        }

        int placeOf(int book) {
            for (int i = 0; i < books; i++) {
                if (row[i] == book) {
                    return i;
                }
            }
            return 0;
        }

        void moveBook(int from, int to) {
            int book = row[from];
            for (int i = from; i < to; i++) {
                row[i] = row[i + 1];
            }
            for (int i = from; i > to; i--) {
                row[i] = row[i - 1];
            }
            row[to] = book;
        }

        int underGlass() {
            int under = 0;
            for (int i = 0; i < books; i++) {
                under += glass[i] ? 1 : 0;
            }
            return under;
        }

        int senseOf(int book, Desk desk) {
            int sense = 0;
            for (int i = 1; i < PAGES; i++) {
                if (desk.sensed(said(book, i - 1), said(book, i), i) != 0) {
                    sense++;
                }
            }
            return sense;
        }

        int senseOfAll(Desk desk) {
            int sense = 0;
            for (int i = 0; i < books; i++) {
                sense += senseOf(i, desk);
            }
            return sense;
        }

        /** Whether a PAGE changes. The pane, if any, stands right ahead of the BOOK at that place. */
        boolean passNight(Desk desk, int pane) {
            int page = night % PAGES;
            for (int place = 0; place < books; place++) {
                gives[place] = given(row[place], said(row[place], page));
            }
            boolean changed = false;
            for (int place = 0; place < books; place++) {
                int book = row[place];
                if (!glass[book]) {
                    int o = said(book, page);
                    int l = place == pane ? o : givenAt(place - 1, o);
                    int r = place + 1 == pane ? o : givenAt(place + 1, o);
                    int w = desk.merged(o, l, r);
                    int v = kindOf(book).taken(o, w, m[book], night);
                    changed = changed || v != o;
                    pages[book * PAGES + page] = v;
                }
            }
            night++;
            return changed;
        }

        /** By what was given as the NIGHT began, as the PAGE there may be changed by now. */
        int givenAt(int place, int o) {
            if (place < 0 || place >= books || glass[row[place]]) {
                return o;
            }
            return gives[place];
        }
    }

    /** What lies beside the shelf and goes into an IMAGE, too: THE TAPE, the TEXTS, z, the numbers that wait. */
    private static final class Desk {
        private final int[] tape = new int[MOST_BYTES];
        private int tapeLength;
        private final Text merge = new Text();
        private final Text sense = new Text();
        private int z = 1;
        private final int[] waits = new int[MOST_WAITING];
        private int waiting;

        void copyFrom(Desk other) {
            System.arraycopy(other.tape, 0, tape, 0, MOST_BYTES);
            tapeLength = other.tapeLength;
            merge.copyFrom(other.merge);
            sense.copyFrom(other.sense);
            z = other.z;
            System.arraycopy(other.waits, 0, waits, 0, MOST_WAITING);
            waiting = other.waiting;
        }

        int merged(int o, int l, int r) {
            int w = merge.isThere() ? merge.worth(o, l, r) : (o + l + r) / 3;
            return Math.max(0, Math.min(MOST_SAID, w));
        }

        int sensed(int a, int p, int n) {
            if (sense.isThere()) {
                return sense.worth(a, p, n);
            }
            return a < p ? 1 : 0;
        }

        int draw() {
            z = z * 1103515245 + 12345;
            return z >>> 8;
        }
    }

    /**
     * A TEXT as it is worked out: each sign behind what it joins. In the code a number is itself, a NAME -1, -2 or -3,
     * a sign its byte below 0.
     */
    private static final class Text {
        private final int[] code = new int[MOST_BYTES];
        private int length;
        private final int[] worths = new int[MOST_BYTES];
        private final int[] signs = new int[MOST_BYTES];
        private int waiting;
        private int open;
        private int digits;
        private boolean due;

        boolean isThere() {
            return length > 0;
        }

        void copyFrom(Text other) {
            System.arraycopy(other.code, 0, code, 0, MOST_BYTES);
            length = other.length;
        }

        int worth(int a, int b, int c) {
            int top = 0;
            for (int i = 0; i < length; i++) {
                int part = code[i];
                if (part >= LAST_NAME) {
                    if (top < worths.length) {
                        worths[top] = part >= 0 ? part : part == -1 ? a : part == -2 ? b : c;
                        top++;
                    }
                } else if (part == -'!') {
                    if (top >= 1) {
                        worths[top - 1] = worths[top - 1] == 0 ? 1 : 0;
                    }
                } else if (top >= 2) {
                    top--;
                    worths[top - 1] = joined(-part, worths[top - 1], worths[top]);
                }
            }
            return worths[0];
        }

        static int joined(int sign, int a, int b) {
            switch (sign) {
                case '|': return a != 0 || b != 0 ? 1 : 0;
                case '&': return a != 0 && b != 0 ? 1 : 0;
                case '<': return a < b ? 1 : 0;
                case '=': return a == b ? 1 : 0;
                case '>': return a > b ? 1 : 0;
                case '+': return a + b;
                case '-': return a - b;
                case '*': return a * b;
                case '/': return b == 0 ? 0 : a / b;
                default: return b == 0 ? 0 : a % b;
            }
        }

        /** The FAULT; -1, if there is none. */
        int readFrom(int[] tape, int bytes, int use) {
            length = 0;
            waiting = 0;
            open = 0;
            digits = 0;
            due = true;
            for (int i = 0; i < bytes; i++) {
                boolean goesOn = due ? beginsQ(tape[i], use) : followsQ(tape[i]);
                if (!goesOn) {
                    return i;
                }
            }
            settle(1);
            return due || waiting > 0 ? bytes : -1;
        }

        boolean beginsQ(int sign, int use) {
            if (sign == '!' || sign == '(') {
                if (open >= MOST_OPEN) {
                    return false;
                }
                open++;
                hold(sign);
                return true;
            }
            due = false;
            digits = isDigit(sign) ? 1 : 0;
            if (digits == 1) {
                add(sign - '0');
                return true;
            }
            for (int i = 0; i < 3; i++) {
                if (NAMES[3 * use + i] == sign) {
                    add(-1 - i);
                    return true;
                }
            }
            return false;
        }

        boolean followsQ(int sign) {
            if (isDigit(sign)) {
                return goesOnInNumber(sign);
            }
            digits = 0;
            if (sign == ')') {
                return closes();
            }
            int strength = strengthOf(sign);
            if (strength < 1 || strength > STRONGEST_JOINING) {
                return false;
            }
            settle(strength == COMPARING ? COMPARING + 1 : strength);
            if (strength == COMPARING && waiting > 0 && strengthOf(signs[waiting - 1]) == COMPARING) {
                return false;
            }
            hold(sign);
            due = true;
            return true;
        }

        boolean goesOnInNumber(int digit) {
            if (digits < 1 || digits >= MOST_DIGITS || length < 1) {
                return false;
            }
            code[length - 1] = code[length - 1] * 10 + digit - '0';
            digits++;
            return true;
        }

        boolean closes() {
            settle(1);
            if (waiting < 1) {
                return false;
            }
            waiting--;
            open--;
            return true;
        }

        /** Sets down the signs that wait and bind at least so much; an open ( binds 0, so nothing goes past it. */
        void settle(int strength) {
            while (waiting > 0 && strengthOf(signs[waiting - 1]) >= strength) {
                waiting--;
                open -= signs[waiting] == '!' ? 1 : 0;
                add(-signs[waiting]);
            }
        }

        void hold(int sign) {
            if (waiting < signs.length) {
                signs[waiting] = sign;
                waiting++;
            }
        }

        void add(int part) {
            if (length < code.length) {
                code[length] = part;
                length++;
            }
        }

        static boolean isDigit(int sign) {
            return sign >= '0' && sign <= '9';
        }

        static int strengthOf(int sign) {
            switch (sign) {
                case '|': return 1;
                case '&': return 2;
                case '<':
                case '=':
                case '>': return COMPARING;
                case '+':
                case '-': return 4;
                case '*':
                case '/':
                case '%': return STRONGEST_JOINING;
                case '!': return 6;
                default: return 0;
            }
        }
    }
}
