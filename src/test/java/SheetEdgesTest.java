import java.io.IOException;

/** The edges of sheets and findings, of read, write, count and digest: promises 12 and 31 to 38, sentence by sentence. */
public final class SheetEdgesTest {
    private static final int NONE = Sentences.NONE, BAD = Sentences.BAD;
    private static final int NULL = Sentences.NULL, INDEX = Sentences.INDEX, CAST = Sentences.CAST, STORE = Sentences.STORE, SIZE = Sentences.SIZE;
    private static final int LEAST_INT = Sentences.LEAST_INT;

    private final Sentences s;

    private SheetEdgesTest(Sentences s) {
        this.s = s;
    }

    public static void main(String[] args) throws IOException {
        Sentences s = new Sentences();
        SheetEdgesTest t = new SheetEdgesTest(s);
        t.lostAtFirst();
        t.zeroAtFirst();
        t.findings();
        t.sheet();
        t.lose();
        t.lowestBits();
        t.put();
        t.get();
        t.copy();
        t.copyAsTheyWere();
        t.copyOfNone();
        t.readWholeOnes();
        t.readAsLongAsEachMayBe();
        t.readRefused();
        t.write();
        t.count();
        t.digestOfNothing();
        t.digestWraps();
        t.digestOfEachArgument();
        s.end();
    }

    private void lostAtFirst() {
        s.says("SHEETS 0 .. 3 are LOST (at first) or a row of a FORM: 0 bytes, 1 shorts, 2 ints, of 0 to 60 items (0 at first).");
        TownBagpipes x = Sentences.town(".a9s", "");
        for (int sheet = 0; sheet <= 3; sheet++) {
            s.due("lose " + sheet, x.lose(sheet), NULL);
            s.due("put " + sheet, x.put(sheet, 0, 0, 0), NULL);
            s.due("get " + sheet, x.get(sheet, 0, 0), LEAST_INT);
            s.due("read " + sheet, x.read(sheet), NULL);
            s.due("write " + sheet, x.write(0, sheet), NULL);
            s.due("copy " + sheet, x.copy(sheet, 0, sheet, 0, 0), NULL);
        }
        for (int sheet : new int[] {-1, 4}) {
            s.due("sheet " + sheet, x.sheet(sheet, 0, 1), BAD);
            s.due("lose " + sheet, x.lose(sheet), BAD);
            s.due("put " + sheet, x.put(sheet, 0, 0, 0), BAD);
            s.due("get " + sheet, x.get(sheet, 0, 0), LEAST_INT);
            s.due("read " + sheet, x.read(sheet), BAD);
            s.due("write " + sheet, x.write(0, sheet), BAD);
            s.due("copy from " + sheet, x.copy(sheet, 0, 0, 0, 0), BAD);
            s.due("copy to " + sheet, x.copy(0, 0, sheet, 0, 0), BAD);
        }
        for (int sheet = 0; sheet <= 3; sheet++) {
            s.due("none of them came", x.lose(sheet), NULL);
            s.due("one may come", x.sheet(sheet, sheet % 3, 60), 60);
            s.due("its last item", x.get(sheet, sheet % 3, 59), 0);
        }
    }

    private void zeroAtFirst() {
        s.says("of 0 to 60 items (0 at first)");
        TownBagpipes x = new TownBagpipes();
        for (int form = 0; form <= 2; form++) {
            s.due("none", x.sheet(0, form, 0), 0);
            s.due("there is no item 0", x.put(0, form, 0, 1), INDEX);
            s.due("one", x.sheet(0, form, 1), 1);
            s.due("item 0", x.get(0, form, 0), 0);
            x.put(0, form, 0, -1);
            s.due("sixty", x.sheet(0, form, 60), 60);
            s.due("item 0 anew", x.get(0, form, 0), 0);
            x.put(0, form, 59, -1);
            s.due("61", x.sheet(0, form, 61), BAD);
            s.due("the sixty stay", x.get(0, form, 59), -1);
            x.lose(0);
            x.sheet(0, form, 60);
            s.due("lost and new", x.get(0, form, 59), 0);
        }
    }

    private void findings() {
        s.says("1 NULL: the SHEET is LOST; 2 INDEX: there is no such item; 3 CAST: it has another FORM; 4 STORE: unlike FORMS; 5 SIZE: below 0.");
        TownBagpipes x = new TownBagpipes();
        s.due("before any", x.count(8), 0);
        x.sheet(0, 0, 2);
        x.sheet(1, 1, 2);
        finding(x, x.lose(2), 1);
        finding(x, x.put(0, 0, 2, 0), 2);
        finding(x, x.put(0, 1, 0, 0), 3);
        finding(x, x.copy(0, 0, 1, 0, 1), 4);
        finding(x, x.sheet(0, 0, -1), 5);
        finding(x, x.read(3), 1);
        finding(x, x.copy(0, 0, 0, 1, 2), 2);
        finding(x, x.copy(2, 0, 0, 0, 1), 1);
        x.get(0, 2, 0);
        s.due("CAST of get", x.count(8), 3);
        x.get(0, 0, -1);
        s.due("INDEX of get", x.count(8), 2);
        x.get(2, 0, 0);
        s.due("NULL of get", x.count(8), 1);
        x.sheet(0, 0, -1);
        x.sheet(0, 3, 1);
        x.get(0, 0, 0);
        x.put(0, 0, 0, 5);
        x.type(2, 0);
        x.undo(0);
        x.back(0);
        s.due("what is well, BAD and NOT change it not", x.count(8), 5);
    }

    private void finding(TownBagpipes x, int answer, int number) {
        s.due("answer of " + number, answer, -10 - number);
        s.due("count(8) of " + number, x.count(8), number);
    }

    private void sheet() {
        s.says("A SHEET is a new row of a FORM with n items: n. BAD: SHEET, FORM, above 60; SIZE.");
        TownBagpipes x = new TownBagpipes();
        s.due("form -1", x.sheet(0, -1, 1), BAD);
        s.due("form 3", x.sheet(0, 3, 1), BAD);
        s.due("above 60", x.sheet(0, 0, 61), BAD);
        s.due("far above", x.sheet(0, 0, Integer.MAX_VALUE), BAD);
        s.due("SHEET ahead of SIZE", x.sheet(4, 0, -1), BAD);
        s.due("FORM ahead of SIZE", x.sheet(0, 3, -1), BAD);
        s.due("BAD is no finding", x.count(8), 0);
        s.due("just below 0", x.sheet(0, 0, -1), SIZE);
        s.due("far below 0", x.sheet(0, 0, Integer.MIN_VALUE), SIZE);
        Sentences.items(x, 1, 1, 7, 8);
        s.due("one that is there", x.sheet(1, 2, -1), SIZE);
        s.due("stays as it is", x.get(1, 1, 1), 8);
        s.due("another form", x.sheet(1, 2, 3), 3);
        s.due("is of that form", x.get(1, 1, 0), LEAST_INT);
        s.due("and new", x.get(1, 2, 0), 0);
        s.due("with so many", x.lose(1), 3);
    }

    private void lose() {
        s.says("It is LOST: how many items it had. BAD; NULL.");
        TownBagpipes x = new TownBagpipes();
        x.sheet(0, 0, 0);
        x.sheet(3, 2, 60);
        s.due("none", x.lose(0), 0);
        s.due("sixty", x.lose(3), 60);
        s.due("lost", x.lose(3), NULL);
        s.due("no item is left", x.put(3, 2, 0, 1), NULL);
        s.due("above", x.lose(4), BAD);
        s.due("below", x.lose(-1), BAD);
    }

    private void lowestBits() {
        s.says("Item i, treated as of a FORM, becomes v (the lowest bits that it has): 1.");
        long[][] formPutGot = {{0, 127, 127}, {0, 128, -128}, {0, -128, -128}, {0, -129, 127}, {0, 255, -1}, {0, 256, 0},
            {1, 32767, 32767}, {1, 32768, -32768}, {1, -32769, 32767}, {1, 65535, -1}, {1, 65536, 0},
            {2, Integer.MAX_VALUE, Integer.MAX_VALUE}, {2, Integer.MIN_VALUE, Integer.MIN_VALUE}, {2, -1, -1}};
        TownBagpipes x = new TownBagpipes();
        for (long[] row : formPutGot) {
            int form = (int) row[0];
            x.sheet(form, form, 1);
            s.due("put " + row[1], x.put(form, form, 0, (int) row[1]), 1);
            s.due("get " + row[1] + " of form " + form, x.get(form, form, 0), row[2]);
        }
    }

    private void put() {
        s.says("becomes v (the lowest bits that it has): 1. BAD; NULL; CAST; INDEX.");
        TownBagpipes x = new TownBagpipes();
        Sentences.items(x, 0, 1, 5, 6);
        s.due("BAD ahead of NULL", x.put(3, 3, 0, 9), BAD);
        s.due("BAD below", x.put(3, -1, 0, 9), BAD);
        s.due("NULL ahead of INDEX", x.put(3, 0, -1, 9), NULL);
        s.due("CAST ahead of INDEX", x.put(0, 0, 2, 9), CAST);
        s.due("CAST to a wider one", x.put(0, 2, 0, 9), CAST);
        s.due("just behind", x.put(0, 1, 2, 9), INDEX);
        s.due("just ahead", x.put(0, 1, -1, 9), INDEX);
        s.due("far behind", x.put(0, 1, Integer.MAX_VALUE, 9), INDEX);
        s.due("far ahead", x.put(0, 1, Integer.MIN_VALUE, 9), INDEX);
        s.due("item 0 stays", x.get(0, 1, 0), 5);
        s.due("item 1 stays", x.get(0, 1, 1), 6);
        s.due("the last", x.put(0, 1, 1, 9), 1);
        s.due("is put", x.get(0, 1, 1), 9);
        s.due("none beside it", x.get(0, 1, 0), 5);
        x.sheet(1, 1, 60);
        x.put(1, 1, 0, 77);
        s.due("none behind a short one comes into the next", x.put(0, 1, 60, 9) + x.get(1, 1, 0), INDEX + 77);
    }

    private void get() {
        s.says("Item i of it. BAD: the least int; so are NULL, CAST, INDEX (count() 8 tells).");
        TownBagpipes x = new TownBagpipes();
        Sentences.items(x, 0, 0, 5, 6);
        s.due("the first", x.get(0, 0, 0), 5);
        s.due("the last", x.get(0, 0, 1), 6);
        int[][] sheetFormItemNumber = {{4, 0, 0, 0}, {-1, 0, 0, 0}, {0, 3, 0, 0}, {0, -1, 0, 0}, {3, 3, 0, 0}, {3, 0, 5, 1}, {0, 1, 5, 3}, {0, 0, 2, 2}, {0, 0, -1, 2}};
        for (int[] row : sheetFormItemNumber) {
            int before = x.count(8);
            s.due("get(" + row[0] + ", " + row[1] + ", " + row[2] + ")", x.get(row[0], row[1], row[2]), LEAST_INT);
            s.due("its number", x.count(8), row[3] == 0 ? before : row[3]);
        }
        Sentences.items(x, 1, 2, LEAST_INT);
        x.lose(2);
        s.due("an item that is the least int", x.get(1, 2, 0), LEAST_INT);
        s.due("is no finding", x.count(8), 1);
    }

    private void copy() {
        s.says("BAD: the SHEETS; NULL: s, t; STORE; INDEX: below 0, not so many.");
        TownBagpipes x = new TownBagpipes();
        Sentences.items(x, 0, 0, 1, 2, 3);
        Sentences.items(x, 1, 0, 7, 8);
        Sentences.items(x, 2, 2, 9);
        s.due("BAD ahead of NULL: t", x.copy(3, 0, 4, 0, 0), BAD);
        s.due("BAD ahead of NULL: s", x.copy(-1, 0, 3, 0, 0), BAD);
        s.due("NULL s ahead of INDEX", x.copy(3, -1, 0, 0, 1), NULL);
        s.due("NULL t ahead of INDEX", x.copy(0, -1, 3, 0, 1), NULL);
        s.due("STORE ahead of INDEX", x.copy(0, -1, 2, 0, 1), STORE);
        s.due("STORE the other way", x.copy(2, 0, 0, 0, 1), STORE);
        s.due("STORE of none", x.copy(0, 0, 2, 0, 0), STORE);
        s.due("i below 0", x.copy(0, -1, 1, 0, 1), INDEX);
        s.due("j below 0", x.copy(0, 0, 1, -1, 1), INDEX);
        s.due("n below 0", x.copy(0, 1, 1, 1, -1), INDEX);
        s.due("one too many of s", x.copy(0, 3, 1, 0, 1), INDEX);
        s.due("one too many of t", x.copy(0, 0, 1, 2, 1), INDEX);
        s.due("far too many", x.copy(0, 1, 1, 1, Integer.MAX_VALUE), INDEX);
        s.due("i far behind", x.copy(0, Integer.MAX_VALUE, 1, 0, 1), INDEX);
        s.due("i and n wrap", x.copy(0, Integer.MAX_VALUE, 1, 0, Integer.MAX_VALUE), INDEX);
        s.due("n far below", x.copy(0, 0, 1, 0, Integer.MIN_VALUE), INDEX);
        s.due("nothing came", x.get(1, 0, 0) * 10 + x.get(1, 0, 1), 78);
        s.due("just as many as t has", x.copy(0, 1, 1, 0, 2), 1);
        s.due("they came", x.get(1, 0, 0) * 10 + x.get(1, 0, 1), 23);
        s.due("those of s stay", x.get(0, 0, 0) * 100 + x.get(0, 0, 1) * 10 + x.get(0, 0, 2), 123);
    }

    private void copyAsTheyWere() {
        s.says("come to SHEET t (perhaps s, as they were), from j on: 1.");
        for (int form = 0; form <= 2; form++) {
            TownBagpipes x = new TownBagpipes();
            Sentences.items(x, 3, form, 1, 2, 3, 4, 5);
            s.due("up by one", x.copy(3, 0, 3, 1, 4), 1);
            row(x, form, 1, 1, 2, 3, 4);
            s.due("down by two", x.copy(3, 2, 3, 0, 3), 1);
            row(x, form, 2, 3, 4, 3, 4);
            s.due("all, where they are", x.copy(3, 0, 3, 0, 5), 1);
            row(x, form, 2, 3, 4, 3, 4);
        }
        TownBagpipes y = new TownBagpipes();
        y.sheet(0, 2, 60);
        y.sheet(1, 2, 60);
        y.put(0, 2, 59, 9);
        s.due("sixty", y.copy(0, 0, 1, 0, 60), 1);
        s.due("the last of them", y.get(1, 2, 59), 9);
    }

    private void row(TownBagpipes x, int form, int... want) {
        for (int i = 0; i < want.length; i++) {
            s.due("item " + i, x.get(3, form, i), want[i]);
        }
    }

    private void copyOfNone() {
        s.says("n items of SHEET s, from i on");
        TownBagpipes x = new TownBagpipes();
        x.sheet(0, 0, 2);
        x.sheet(1, 0, 0);
        s.due("none from the end", x.copy(0, 2, 1, 0, 0), 1);
        s.due("none to the end", x.copy(1, 0, 0, 2, 0), 1);
        s.due("none from behind the end", x.copy(0, 3, 1, 0, 0), INDEX);
        s.due("none to behind the end", x.copy(1, 0, 0, 3, 0), INDEX);
        s.due("none from below", x.copy(0, -1, 1, 0, 0), INDEX);
    }

    private void readWholeOnes() {
        s.says("PINCHES from a SHEET: its items, two for each, as many as are whole, as long as each may be: how many.");
        int[] wholeOf = {0, 0, 1, 1, 2, 2};
        for (int form = 0; form <= 2; form++) {
            for (int n = 0; n < wholeOf.length; n++) {
                TownBagpipes x = new TownBagpipes();
                x.sheet(0, form, n);
                s.due(n + " items of form " + form, x.read(0), wholeOf[n]);
                s.due("so many are there", x.count(5), wholeOf[n]);
            }
        }
        TownBagpipes y = new TownBagpipes();
        y.sheet(3, 2, 60);
        s.due("sixty items: six at most", y.read(3), 6);
        s.due("six are there", y.count(5), 6);
        TownBagpipes z = Sentences.town(".a9s", "");
        s.due("asked ahead", z.bag(4, 3), 0);
        Sentences.items(z, 0, 0, 4, 0);
        z.read(0);
        s.due("it counts at once", z.bag(4, 3), 1);
        s.due("the sheet stays", z.get(0, 0, 0), 4);
        s.due("it may be read again", z.read(0), 1);
        s.due("both are there", z.count(5), 2);
    }

    private void readAsLongAsEachMayBe() {
        s.says("as long as each may be");
        int[][] pairs = {{-1, 0}, {40, 0}, {0, -1}, {0, 8}, {200, 0}, {0, 200}};
        for (int[] pair : pairs) {
            TownBagpipes x = new TownBagpipes();
            Sentences.items(x, 0, 0, 0, 0, 39, 7, pair[0], pair[1], 1, 1);
            s.due("up to " + pair[0] + ", " + pair[1], x.read(0), 2);
            Sentences.items(x, 1, 2, pair[0], pair[1], 1, 1);
            s.due("none from " + pair[0] + ", " + pair[1], x.read(1), 0);
            s.due("two are there", x.count(5), 2);
            s.due("it is no finding", x.count(8), 0);
        }
        TownBagpipes y = new TownBagpipes();
        for (int i = 0; i < 5; i++) {
            y.pinch(0, 0);
        }
        Sentences.items(y, 0, 1, 5, 1, 6, 2);
        s.due("room for one", y.read(0), 1);
        s.due("six", y.count(5), 6);
        s.due("room for none", y.read(0), 0);
        s.due("still six", y.count(5), 6);
    }

    private void readRefused() {
        s.says("as long as each may be: how many. BAD; NULL.");
        TownBagpipes x = new TownBagpipes();
        x.pinch(0, 0);
        s.due("above", x.read(4), BAD);
        s.due("below", x.read(-1), BAD);
        s.due("BAD is no finding", x.count(8), 0);
        s.due("lost", x.read(2), NULL);
        s.due("those there stay", x.count(5), 1);
    }

    private void write() {
        s.says("What a HOUSE gets in HOURS 0 on comes to a SHEET from item 0 on, as many as there are items, 40 at most: how many. BAD; NULL.");
        TownBagpipes x = Sentences.town(".a9s;.a9s;.a9s;.a9s;.a9s;.a9s;.a9s;.g3swr", "9".repeat(40));
        int[] gets = {1, 2, 3};
        for (int n : new int[] {0, 1, 39, 40, 41, 60}) {
            x.sheet(0, 0, n);
            if (n > 40) {
                x.put(0, 0, 40, 99);
            }
            s.due(n + " items", x.write(7, 0), Math.min(n, 40));
            if (n > 0) {
                s.due("the first of " + n, x.get(0, 0, 0), 1);
                int last = Math.min(n, 40) - 1;
                s.due("the last of " + n, x.get(0, 0, last), gets[last % 3]);
            }
            if (n > 40) {
                s.due("item 40 stays", x.get(0, 0, 40), 99);
            }
        }
        for (int form = 0; form <= 2; form++) {
            Sentences.items(x, 1, form, -1, -1, -1);
            s.due("a form may be any", x.write(7, 1), 3);
            s.due("item 2", x.get(1, form, 2), 3);
        }
        s.due("house 8", x.write(8, 0), BAD);
        s.due("house -1", x.write(-1, 0), BAD);
        s.due("BAD ahead of NULL: house", x.write(8, 3), BAD);
        s.due("BAD ahead of NULL: sheet", x.write(0, 4), BAD);
        s.due("BAD is no finding", x.count(8), 0);
        s.due("lost", x.write(0, 3), NULL);
        s.due("still lost", x.lose(3), NULL);
    }

    private void count() {
        s.says("8 the number of the latest FINDING (0 before any). BAD.");
        TownBagpipes x = new TownBagpipes();
        for (int what = 0; what <= 8; what++) {
            s.due("of nothing: " + what, x.count(what), 0);
        }
        s.due("what -1", x.count(-1), BAD);
        s.due("what 9", x.count(9), BAD);
        s.says("6 in how many HOURS a HOUSE is SHORT (each HOUSE, each HOUR)");
        TownBagpipes y = Sentences.town(".a1w;.b1w;.c1w;.d1w;.e1w;.f1w;.g1w;.a1w", "");
        s.due("eight in forty", y.count(6), 320);
        y.wipe(0);
        s.due("no houses", y.count(6), 0);
        TownBagpipes z = Sentences.town(".a1w", "1x");
        s.due("elbows told with a fault", z.count(1), 0);
        s.due("bytes of it", z.count(3), 2);
    }

    private void digestOfNothing() {
        s.says("h is 17; h becomes 31 h and each of: count() 0 to 7; of texts fault()");
        // Nothing is there: no counts, no faults, no houses; 3 elbows bring 12 up to 60; no plans but hour 0; all starts.
        long h = 17;
        long[] told = {0, 0, 0, 0, 0, 0, 0, 0, NONE, NONE};
        for (long one : told) {
            h = 31 * h + one;
        }
        for (int hour = 0; hour < 40; hour++) {
            long[] row = {3, Math.min(60, 42 + 12 * hour), 0, 0, 0};
            for (long one : row) {
                h = 31 * h + one;
            }
        }
        long[] rest = {NONE, NONE, 40, 0, 0, 0, NONE, NONE, 0, 61, 0, 60, 0, 60};
        for (long one : rest) {
            h = 31 * h + one;
        }
        s.due("digest()", new TownBagpipes().digest(), h);
    }

    /** One house that runs and is never short but by a leak, with answers worked out by hand. */
    private void digestWraps() {
        s.says("as longs that wrap");
        TownBagpipes x = Sentences.town(".c5r", "1".repeat(40));
        x.set(0, 3);
        x.leak(39, 4, 0);
        x.pinch(0, 1);
        x.seen(0, 0, 4);
        long h = 17;
        long[] told = {1, 40, 4, 40, 1, 1, 1, 1, NONE, NONE};
        for (long one : told) {
            h = 31 * h + one;
        }
        for (int hour = 0; hour < 40; hour++) {
            // 3 and 4 come to 7, of which 4 go to the house; in the last hour 4 leak and only 3 are left for it.
            long[] row = hour < 39 ? new long[] {1, 3, 0, 4, 0} : new long[] {1, 0, 4, 4, 1};
            for (long one : row) {
                h = 31 * h + one;
            }
        }
        // Widths 4 to 9 give 4 in hour 0; by none of them is any hour but the last unlike (all get alike): ask is hour 0.
        long[] house = {NONE, 2, 5, 1, 2, NONE, NONE, 4, 4, 2, 4, 4, 2, 4, 4, 2, 3, 4, 2, 39, 1, NONE, NONE, 1008, 0, 11, 16};
        for (long one : house) {
            h = 31 * h + one;
        }
        // One elbow more in any hour helps; so does the patch; START from 4 on is enough; without the pinch all is as it was.
        // By START 0 on hour 0 has 4: all 61 come out.
        long[] rest = {39, 39, 39, 0, 0, 4, 0, 0, 1, 61, 0, 60, x.year(7, 25, 0), x.year(7, 25, 1)};
        for (long one : rest) {
            h = 31 * h + one;
        }
        s.due("digest()", x.digest(), h);
        s.due("it is the same again", x.digest(), h);
    }

    /** Were another hour, house, chance or seed asked for in the digest, it would be another one here. */
    private void digestOfEachArgument() {
        s.says("then held() 0, 1, shut() 0, 1, was(), ask(), moth(5, it), above, below");
        TownBagpipes x = Sentences.town(".a6ws;.b9rr;bc3sws", "");
        x.set(0, 58);
        x.set(1, 33);
        x.set(2, 2);
        x.leak(18, 9, 22);
        x.leak(12, 9, 17);
        s.due("was() is told", x.was(1) > 0 ? 1 : 0, 1);
        s.due("ask() is told", x.ask(1) > 0 ? 1 : 0, 1);
        for (int c : new int[] {4, 6}) {
            boolean unlike = x.moth(c, 1, 0) != x.moth(5, 1, 0) && x.moth(c, 1, 1) != x.moth(5, 1, 1);
            s.due("moth by " + c + " is unlike", unlike ? 1 : 0, 1);
        }
        int[][] others = {{6, 25}, {8, 25}, {7, 24}, {7, 26}};
        for (int[] other : others) {
            boolean unlike = x.year(other[0], other[1], 0) != x.year(7, 25, 0) && x.year(other[0], other[1], 1) != x.year(7, 25, 1);
            s.due("year by " + other[0] + ", " + other[1] + " is unlike", unlike ? 1 : 0, 1);
        }
        s.due("digest()", x.digest(), Checks.digestByCalls(x));
    }
}
