/** The promises by their numbers, with answers worked out by hand from the document. */
public final class PromisesTest {
    private static final Checks C = new Checks();
    private static final int NONE = -1, BAD = -2, NOT = -3, FULL = -4;
    private static final int NULL = -11, INDEX = -12, CAST = -13, STORE = -14, SIZE = -15;
    private static final int LEAST = Integer.MIN_VALUE;
    private static final int[] WILD = {-1, 1000, Integer.MIN_VALUE, Integer.MAX_VALUE};
    private static final String NOBODY = "0".repeat(40);

    public static void main(String[] args) {
        newObject();
        type();
        wipe();
        undo();
        faultOfHouses();
        faultOfElbows();
        house();
        elbows();
        set();
        leak();
        pinch();
        back();
        read();
        bag();
        bagOfPipes();
        got();
        held();
        firstQuietWell();
        elbow();
        shut();
        least();
        patch();
        seenAndForget();
        never();
        was();
        starts();
        ask();
        moth();
        year();
        sheet();
        lose();
        putAndGet();
        copy();
        write();
        count();
        digest();
        refusalsChangeNothing();
        C.end();
    }

    private static void due(String call, long got, long want) {
        C.due(call, got, want);
    }

    private static TownBagpipes town(String houses, String elbows) {
        return Checks.town(houses, elbows);
    }

    // 1
    private static void newObject() {
        TownBagpipes x = new TownBagpipes();
        for (int what = 0; what <= 8; what++) {
            due("1 count(" + what + ")", x.count(what), 0);
        }
        for (int s = 0; s <= 3; s++) {
            due("1 lose(" + s + ")", x.lose(s), NULL);
        }
        due("1 START", x.set(0, 5), 30);
        due("1 ROOM", x.set(1, 5), 60);
        due("1 LIFT", x.set(2, 5), 4);
        due("1 elbows(0)", x.elbows(0), 3);
        due("1 NONE", TownBagpipes.NONE, NONE);
        due("1 BAD", TownBagpipes.BAD, BAD);
        due("1 NOT", TownBagpipes.NOT, NOT);
        due("1 FULL", TownBagpipes.FULL, FULL);
    }

    // 2
    private static void type() {
        TownBagpipes x = new TownBagpipes();
        for (int wild : WILD) {
            due("2 type(" + wild + ", 46)", x.type(wild, 46), BAD);
            due("2 type(0, " + wild + ")", x.type(0, wild), BAD);
        }
        due("2 type(2, 46)", x.type(2, 46), BAD);
        due("2 type(0, 256)", x.type(0, 256), BAD);
        for (int i = 1; i <= 55; i++) {
            due("2 type(0) " + i, x.type(0, i % 2 == 0 ? 0 : 255), i);
        }
        due("2 type(0) 56", x.type(0, 0), FULL);
        due("2 BAD ahead of FULL", x.type(0, 256), BAD);
        for (int i = 1; i <= 40; i++) {
            due("2 type(1) " + i, x.type(1, '1'), i);
        }
        due("2 type(1) 41", x.type(1, '1'), FULL);
        due("2 count(2)", x.count(2), 55);
        due("2 count(3)", x.count(3), 40);
        TownBagpipes y = town(".a9r", "0");
        due("2 what was asked", y.got(0, 0, 0), 4);
        Checks.typeAll(y, 0, ";.a9r");
        due("2 is asked anew behind a byte", y.bag(0, 0), 22);
    }

    // 3
    private static void wipe() {
        TownBagpipes x = town(".a1s", "12");
        due("3 wipe(-1)", x.wipe(-1), BAD);
        due("3 wipe(2)", x.wipe(2), BAD);
        due("3 wipe(0)", x.wipe(0), 4);
        due("3 wipe(0) again", x.wipe(0), 0);
        due("3 houses", x.count(0), 0);
        due("3 an empty text is well", x.fault(0), NONE);
        due("3 elbows stay", x.elbows(1), 2);
        due("3 wipe(1)", x.wipe(1), 2);
        due("3 elbows(1)", x.elbows(1), 3);
    }

    // 4
    private static void undo() {
        TownBagpipes x = town(".a1sx", "7");
        due("4 undo(2)", x.undo(2), BAD);
        due("4 undo(-1)", x.undo(-1), BAD);
        due("4 houses with a fault", x.count(0), 0);
        due("4 undo(0)", x.undo(0), 4);
        due("4 houses without it", x.count(0), 1);
        due("4 undo(1)", x.undo(1), 0);
        due("4 undo(1) of nothing", x.undo(1), NOT);
        due("4 elbows(0)", x.elbows(0), 3);
    }

    // 5
    private static void faultOfHouses() {
        String eight = ".a1s;.a1s;.a1s;.a1s;.a1s;.a1s;.a1s;.a1s";
        Object[][] table = {
            {"", NONE}, {".", 1}, {".a", 2}, {".a1", 3}, {".a1s", NONE}, {".a1sw", NONE}, {".a1swr", NONE},
            {".a1swrs", 6}, {".a1swr;", 7}, {".a1s;", 5}, {";", 0}, {"a", 0}, {"ia1s", 0}, {"h", 0}, {"`", 0},
            {".h1s", 1}, {".`1s", 1}, {".A1s", 1}, {".a0s", 2}, {".a:s", 2}, {".a9s", NONE}, {".g9r", NONE},
            {".a1a", 3}, {".a1;", 3}, {".a1s;;", 5}, {".a1s;aa1s", NONE}, {".a1s;ba1s", 5}, {".a1s;aa1s;ba1s", NONE},
            {".a1s;aa1s;ca1s", 10}, {".a1s.a1s", 4}, {".a1s,", 4}, {".a1s ", 4}, {" .a1s", 0}, {".a1s\u0000", 4},
            {eight, NONE}, {eight + "w", NONE}, {eight + ";", 40}, {eight + ";.", 40}, {eight + ";;", 40},
            {eight + ";.a1s", 40}, {".a1s;.a1s;.a1s;.a1s;.a1s;.a1s;.a1s;ga1s", NONE},
            {".a1s;.a1s;.a1s;.a1s;.a1s;.a1s;.a1s;ha1s", 35}, {"\u00ff", 0}, {".a1s;.", 6}, {".a1s;.b", 7}, {".a1s;.b2", 8},
        };
        for (Object[] row : table) {
            TownBagpipes x = town((String) row[0], "");
            due("5 fault of " + row[0], x.fault(0), (Integer) row[1]);
            if ((Integer) row[1] != NONE) {
                due("5 no houses in " + row[0], x.count(0), 0);
            }
        }
        TownBagpipes x = new TownBagpipes();
        due("5 fault(-1)", x.fault(-1), BAD);
        due("5 fault(2)", x.fault(2), BAD);
    }

    private static void faultOfElbows() {
        due("5 none", town("", "").fault(1), NONE);
        due("5 figures", town("", "0123456789").fault(1), NONE);
        due("5 a letter", town("", "12a4").fault(1), 2);
        due("5 a slash", town("", "/").fault(1), 0);
        due("5 a colon", town("", "9:").fault(1), 1);
        due("5 forty", town("", "9".repeat(40)).fault(1), NONE);
        due("5 as if empty", town("", "12a4").elbows(0), 3);
        due("5 none told", town("", "12a4").count(1), 0);
        due("5 its bytes stay", town("", "12a4").count(3), 4);
    }

    // 6
    private static void house() {
        TownBagpipes x = town(".a5swr;ag1r;bd9ws", "");
        long[][] want = {{NONE, 0, 5, 3, 0, 1, 2}, {0, 6, 1, 1, 2, NONE, NONE}, {1, 3, 9, 2, 1, 0, NONE}};
        for (int h = 0; h < 3; h++) {
            for (int what = 0; what <= 6; what++) {
                due("6 house(" + h + ", " + what + ")", x.house(h, what), want[h][what]);
            }
        }
        due("6 no such house", x.house(3, 0), BAD);
        due("6 house(-1, 0)", x.house(-1, 0), BAD);
        due("6 house(0, 7)", x.house(0, 7), BAD);
        due("6 house(0, -1)", x.house(0, -1), BAD);
        x.undo(0);
        x.undo(0);
        due("6 a faulty text has none", x.house(0, 0), BAD);
    }

    // 7
    private static void elbows() {
        TownBagpipes x = town("", "905");
        due("7 elbows(0)", x.elbows(0), 9);
        due("7 elbows(1)", x.elbows(1), 0);
        due("7 elbows(2)", x.elbows(2), 5);
        due("7 elbows(3)", x.elbows(3), 3);
        due("7 elbows(39)", x.elbows(39), 3);
        due("7 elbows(40)", x.elbows(40), BAD);
        due("7 elbows(-1)", x.elbows(-1), BAD);
        due("7 the last of forty", town("", NOBODY.substring(1) + "8").elbows(39), 8);
    }

    // 8
    private static void set() {
        TownBagpipes x = new TownBagpipes();
        int[][] limits = {{0, 60, 30}, {1, 99, 60}, {1, 9, 4}};
        for (int what = 0; what < 3; what++) {
            int[] l = limits[what];
            due("8 below", x.set(what, l[0] - 1), BAD);
            due("8 above", x.set(what, l[1] + 1), BAD);
            due("8 least", x.set(what, l[0]), l[2]);
            due("8 most", x.set(what, l[1]), l[0]);
            due("8 again", x.set(what, l[1]), l[1]);
        }
        due("8 set(3, 1)", x.set(3, 1), BAD);
        due("8 set(-1, 1)", x.set(-1, 1), BAD);
        due("8 60 and 3 elbows by 9", x.bag(0, 0), 87);
        due("8 the room", x.bag(39, 0), 99);
        x.set(1, 10);
        due("8 a start above the room", x.bag(0, 0), 10);
    }

    // 9
    private static void leak() {
        TownBagpipes x = town("", NOBODY);
        due("9 hour -1", x.leak(-1, 1, 0), BAD);
        due("9 hour 40", x.leak(40, 1, 0), BAD);
        due("9 much 0", x.leak(0, 0, 0), BAD);
        due("9 much 10", x.leak(0, 10, 0), BAD);
        due("9 patched -1", x.leak(0, 1, -1), BAD);
        due("9 patched 40", x.leak(0, 1, 40), BAD);
        due("9 the first", x.leak(2, 3, 4), 1);
        due("9 before", x.bag(1, 0), 30);
        due("9 from its hour on", x.bag(2, 0), 27);
        due("9 the hour ahead of the patch", x.bag(3, 1), 3);
        due("9 patched", x.bag(4, 1), 0);
        due("9 a second", x.leak(10, 9, 10), 2);
        due("9 never patched", x.bag(11, 1), 9);
        due("9 only what is there", x.bag(12, 1), 6);
        due("9 nothing is there", x.bag(13, 1), 0);
        due("9 patched earlier is never", x.leak(39, 1, 0), 3);
        x.leak(0, 9, 39);
        x.leak(0, 9, 39);
        due("9 the sixth", x.leak(0, 9, 39), 6);
        due("9 a seventh", x.leak(0, 9, 39), FULL);
        due("9 BAD ahead of FULL", x.leak(0, 10, 39), BAD);
        due("9 all leaks together", x.bag(0, 1), 27);
    }

    // 10
    private static void pinch() {
        TownBagpipes x = town(".a4w;ab4w;.c4w", "");
        due("10 hour -1", x.pinch(-1, 0), BAD);
        due("10 hour 40", x.pinch(40, 0), BAD);
        due("10 house -1", x.pinch(0, -1), BAD);
        due("10 house 8", x.pinch(0, 8), BAD);
        due("10 the first", x.pinch(1, 0), 1);
        due("10 the hour ahead", x.got(0, 0, 0), 2);
        due("10 itself", x.got(1, 0, 0), 0);
        due("10 the one on it", x.got(1, 1, 0), 0);
        due("10 another", x.got(1, 2, 0), 2);
        due("10 the hour behind", x.got(2, 1, 0), 2);
        due("10 a house that is not there", x.pinch(39, 7), 2);
        x.pinch(0, 0);
        x.pinch(0, 0);
        x.pinch(0, 0);
        due("10 the sixth", x.pinch(0, 0), 6);
        due("10 a seventh", x.pinch(0, 0), FULL);
        due("10 BAD ahead of FULL", x.pinch(0, 8), BAD);
    }

    // 11
    private static void back() {
        TownBagpipes x = town(".a4w", "");
        due("11 back(2)", x.back(2), BAD);
        due("11 back(-1)", x.back(-1), BAD);
        due("11 no leak", x.back(0), NOT);
        due("11 no pinch", x.back(1), NOT);
        x.leak(0, 5, 0);
        x.leak(0, 3, 0);
        x.pinch(0, 0);
        x.pinch(1, 0);
        due("11 back(0)", x.back(0), 1);
        due("11 the first stays", x.bag(0, 1), 5);
        due("11 back(1)", x.back(1), 1);
        due("11 the first stays", x.got(0, 0, 0), 0);
        due("11 the last is gone", x.got(1, 0, 0), 2);
        due("11 back(0)", x.back(0), 0);
        due("11 back(0)", x.back(0), NOT);
        due("11 pinches stay", x.count(5), 1);
    }

    // 12
    private static void read() {
        TownBagpipes x = town(".a4w", "");
        due("12 read(-1)", x.read(-1), BAD);
        due("12 read(4)", x.read(4), BAD);
        due("12 lost", x.read(0), NULL);
        due("12 its finding", x.count(8), 1);
        x.pinch(5, 0);
        items(x, 0, 2, 0, 0, 39, 7, 3);
        due("12 whole ones", x.read(0), 2);
        due("12 behind the one that is there", x.count(5), 3);
        due("12 the earlier one stays", x.got(5, 0, 0), 0);
        due("12 pinched", x.got(0, 0, 0), 0);
        due("12 the last item of an odd number is none", x.got(3, 0, 0), 2);
        due("12 the sheet's last is the last", x.back(1), 2);
        due("12 then its first", x.back(1), 1);
        due("12 no longer pinched", x.got(0, 0, 0), 2);
        due("12 the earlier one is left", x.got(5, 0, 0), 0);
        x.sheet(3, 0, 1);
        due("12 one item is none", x.read(3), 0);
        x.sheet(3, 0, 0);
        due("12 no item is none", x.read(3), 0);
        due("12 nothing is undone by it", x.count(5), 1);
        readAsLongAsEachMayBe();
        readUpToSix();
    }

    private static void readAsLongAsEachMayBe() {
        TownBagpipes x = town(".a4w", "");
        items(x, 1, 1, 1, 0, 40, 0, 2, 0);
        due("12 as long as each may be: hour", x.read(1), 1);
        due("12 none behind it", x.got(2, 0, 0), 2);
        items(x, 1, 0, 1, 0, 2, 0, 3, 8, 4, 0);
        due("12 as long as each may be: house", x.read(1), 2);
        due("12 three in all", x.count(5), 3);
        due("12 none behind it either", x.got(4, 0, 0), 2);
        items(x, 1, 0, -1, 0, 2, 0);
        due("12 none may be: hour", x.read(1), 0);
        items(x, 1, 2, 2, -1, 2, 0);
        due("12 none may be: house", x.read(1), 0);
        due("12 those there stay", x.count(5), 3);
    }

    private static void readUpToSix() {
        TownBagpipes x = town(".a4w", "");
        items(x, 2, 2, 0, 0, 1, 0, 2, 0, 3, 0, 4, 0, 5, 0, 6, 0);
        due("12 six at most", x.read(2), 6);
        due("12 six are there", x.count(5), 6);
        due("12 the seventh is not", x.got(6, 0, 0), 2);
        due("12 none more may be", x.read(2), 0);
        due("12 the six stay", x.count(5), 6);
        x.back(1);
        x.back(1);
        items(x, 0, 0, 10, 0, 11, 0, 12, 0);
        due("12 only two more may be", x.read(0), 2);
        due("12 the second of them", x.got(11, 0, 0), 0);
        due("12 not the third", x.got(12, 0, 0), 2);
        due("12 no finding", x.count(8), 0);
    }

    private static void items(TownBagpipes x, int s, int form, int... values) {
        x.sheet(s, form, values.length);
        for (int i = 0; i < values.length; i++) {
            x.put(s, form, i, values[i]);
        }
    }

    // 13
    private static void bag() {
        TownBagpipes x = town(".a4w;.b4s;.a2r", NOBODY);
        x.set(0, 10);
        long[][] want = {{5, 0, 3, 4}, {0, 0, 3, 4}, {0, 0, 0, 7}, {0, 0, 0, 7}};
        for (int hour = 0; hour < want.length; hour++) {
            for (int what = 0; what <= 3; what++) {
                due("13 bag(" + hour + ", " + what + ")", x.bag(hour, what), want[hour][what]);
            }
        }
        due("13 bag(-1, 0)", x.bag(-1, 0), BAD);
        due("13 bag(40, 0)", x.bag(40, 0), BAD);
        due("13 bag(0, -1)", x.bag(0, -1), BAD);
        due("13 bag(0, 4)", x.bag(0, 4), BAD);
        TownBagpipes y = town(".a9r", "9");
        y.set(0, 60);
        y.leak(0, 7, 0);
        due("13 the room first, then leaks, then houses", y.bag(0, 0), 49);
        y.set(0, 0);
        y.wipe(1);
        Checks.typeAll(y, 1, "1" + NOBODY.substring(1));
        due("13 leaks come ahead of houses", y.got(0, 0, 0), 0);
        due("13 lost no more than there was", y.bag(0, 1), 4);
    }

    private static void bagOfPipes() {
        TownBagpipes x = town(".a5r;ab3r;bc9r;ad9s;.e9s", "");
        due("13 by numbers", x.got(0, 0, 0), 4);
        due("13 what its pipe's pipe has left", x.got(0, 1, 0), 1);
        due("13 nothing by a pipe of a pipe", x.got(0, 2, 0), 0);
        due("13 nothing is left for a sleeper", x.got(0, 3, 0), 0);
        due("13 another pipe", x.got(0, 4, 0), 1);
        due("13 short", x.bag(0, 3), 2 + 4 + 8);
        due("13 chord", x.bag(0, 2), 1 + 2 + 16);
        TownBagpipes y = town(".a9s;ab3r;bc9w;ad9r", "");
        due("13 its own pipe", y.got(0, 1, 0), 3);
        due("13 the pipe between", y.got(0, 2, 0), 0);
        due("13 the pipe below has more", y.got(0, 3, 0), 4);
        TownBagpipes z = town(".a9r;.b9r", "0");
        z.set(0, 5);
        due("13 the bag first", z.got(0, 0, 0), 4);
        due("13 what is in the bag", z.got(0, 1, 0), 1);
        String chain = ";aa9s;ba9s;ca9s;da9s;ea9s;fa9s;ga9s";
        due("13 eight on one pipe", town(".a8s" + chain, "").bag(0, 3), 0);
        due("13 the eighth is short by the first's pipe", town(".a7s" + chain, "").bag(0, 3), 128);
    }

    // 14
    private static void got() {
        TownBagpipes x = town(".a3swr;.b9rs", "");
        long[][] needed = {{1, 4}, {2, 1}, {4, 4}, {1, 1}, {2, 4}};
        long[][] done = {{0, 2}, {1, 0}, {2, 2}, {0, 0}, {1, 2}};
        for (int hour = 0; hour < needed.length; hour++) {
            for (int h = 0; h < 2; h++) {
                String of = hour + ", " + h;
                due("14 got(" + of + ", 0)", x.got(hour, h, 0), h == 0 ? Math.min(3, needed[hour][h]) : needed[hour][h]);
                due("14 got(" + of + ", 1)", x.got(hour, h, 1), needed[hour][h]);
                due("14 got(" + of + ", 2)", x.got(hour, h, 2), done[hour][h]);
            }
        }
        due("14 the last hour", x.got(39, 0, 2), 0);
        due("14 hour -1", x.got(-1, 0, 0), BAD);
        due("14 hour 40", x.got(40, 0, 0), BAD);
        due("14 house -1", x.got(0, -1, 0), BAD);
        due("14 house 2", x.got(0, 2, 0), BAD);
        due("14 what -1", x.got(0, 0, -1), BAD);
        due("14 what 3", x.got(0, 0, 3), BAD);
    }

    // 15
    private static void held() {
        TownBagpipes x = town(".a4w;.b4s;.a2r", NOBODY);
        x.set(0, 10);
        due("15 held(0, 0)", x.held(0, 0), 2);
        due("15 held(0, 1)", x.held(0, 1), 38);
        due("15 held(2, 0)", x.held(2, 0), 0);
        due("15 held(2, 1)", x.held(2, 1), 40);
        due("15 held(3, 0)", x.held(3, 0), BAD);
        due("15 held(-1, 0)", x.held(-1, 0), BAD);
        due("15 held(0, 2)", x.held(0, 2), BAD);
        due("15 held(0, -1)", x.held(0, -1), BAD);
        TownBagpipes y = town(".a4w", "");
        due("15 never", y.held(0, 0), NONE);
        due("15 in none", y.held(0, 1), 0);
    }

    // 16 to 18
    private static void firstQuietWell() {
        TownBagpipes x = town(".a9s;.b9s", NOBODY);
        x.set(0, 11);
        due("16 first", x.first(), 5);
        due("17 quiet", x.quiet(), 5);
        due("18 well", x.well(), 5);
        x.set(0, 10);
        due("16 first", x.first(), 5);
        due("17 quiet", x.quiet(), 4);
        x.set(0, 0);
        due("17 at once", x.quiet(), 0);
        TownBagpipes y = town(".a9s", "");
        due("16 none", y.first(), NONE);
        due("17 none", y.quiet(), NONE);
        due("18 all", y.well(), 40);
        y.pinch(39, 0);
        due("16 the last", y.first(), 39);
        due("18 all but one", y.well(), 39);
        due("18 with no houses", new TownBagpipes().well(), 40);
    }

    // 19
    private static void elbow() {
        TownBagpipes x = town(".a9s", NOBODY);
        x.set(0, 0);
        due("19 like ones: the least", x.elbow(0), 0);
        due("19 in how many", x.elbow(1), 36);
        x.set(0, 3);
        x.set(1, 3);
        due("19 the room makes it late", x.elbow(0), 3);
        due("19 in how many", x.elbow(1), 34);
        due("19 elbows are as before", x.elbows(3), 0);
        due("19 elbow(2)", x.elbow(2), BAD);
        due("19 elbow(-1)", x.elbow(-1), BAD);
        TownBagpipes y = town(".a9s;.b9s", NOBODY);
        y.set(0, 0);
        due("19 each house counts", y.elbow(1), 76);
        TownBagpipes z = town(".a9s", "9".repeat(40));
        due("19 a tenth elbow", z.elbow(0), 0);
    }

    // 20
    private static void shut() {
        TownBagpipes x = town(".a9r;.b9w;.c9s", "1".repeat(40));
        x.set(0, 0);
        due("20 shut(1, 0)", x.shut(1, 0), 0);
        due("20 shut(1, 1)", x.shut(1, 1), 0);
        due("20 shut(0, 0): the least of like ones", x.shut(0, 0), 1);
        due("20 shut(0, 1)", x.shut(0, 1), 0);
        due("20 shut(2, 0)", x.shut(2, 0), 0);
        due("20 the one is short all the same", town(".a2w;ab2w", "").shut(1, 1), 40);
        due("20 which", town(".a2w;ab2w", "").shut(1, 0), 0);
        due("20 the one on it", town(".a2w;ab2w", "").shut(0, 0), 1);
        due("20 no other one", town(".a2w", "").shut(0, 0), NONE);
        due("20 no other one", town(".a2w", "").shut(0, 1), NONE);
        due("20 shut(3, 0)", x.shut(3, 0), BAD);
        due("20 shut(-1, 0)", x.shut(-1, 0), BAD);
        due("20 shut(0, 2)", x.shut(0, 2), BAD);
        due("20 shut(0, -1)", x.shut(0, -1), BAD);
        due("20 nothing stays shut", x.got(0, 0, 0), 4);
        TownBagpipes y = town(".a4w;ab9w;ac9w", "");
        due("20 a neighbour on the same pipe", y.shut(2, 0), 1);
        due("20 in none", y.shut(2, 1), 0);
    }

    // 21
    private static void least() {
        TownBagpipes x = town(".a9s", NOBODY);
        due("21 one for each hour", x.least(), 40);
        due("21 START is as before", x.set(0, 30), 30);
        x.set(1, 39);
        due("21 the room is too small", x.least(), NONE);
        due("21 too much", town(".a9w", NOBODY).least(), NONE);
        due("21 none needed", town(".a9w", "").least(), 0);
        due("21 no houses", new TownBagpipes().least(), 0);
        TownBagpipes y = town(".a9sw", NOBODY);
        due("21 just all", y.least(), 60);
    }

    // 22
    private static void patch() {
        TownBagpipes x = town(".a9s", "1".repeat(40));
        x.set(0, 0);
        due("22 none", x.patch(0), NONE);
        due("22 none", x.patch(1), NONE);
        x.leak(10, 2, 20);
        x.leak(0, 9, 0);
        due("22 which", x.patch(0), 1);
        due("22 in how many", x.patch(1), 0);
        x.leak(0, 9, 0);
        due("22 like ones", x.patch(0), 0);
        due("22 in how many", x.patch(1), 40);
        due("22 patch(2)", x.patch(2), BAD);
        due("22 patch(-1)", x.patch(-1), BAD);
        due("22 leaks are as before", x.bag(0, 1), 4);
        due("22 BAD ahead of NONE", new TownBagpipes().patch(2), BAD);
        patchCountsHouses();
    }

    private static void patchCountsHouses() {
        // Each hour brings 9: without leak 0 the second house is short in hours 0 to 3,
        // without leak 1 both are in hours 10 to 12, which is fewer hours but more shortness.
        TownBagpipes x = town(".a9s;.b9s", "1".repeat(40));
        x.set(0, 0);
        x.set(1, 2);
        x.set(2, 9);
        x.leak(10, 2, 13);
        x.leak(0, 1, 4);
        due("22 each house, each hour: which", x.patch(0), 0);
        due("22 each house, each hour: in how many", x.patch(1), 4);
    }

    // 23, 24
    private static void seenAndForget() {
        TownBagpipes x = new TownBagpipes();
        due("23 hour -1", x.seen(-1, 0, 0), BAD);
        due("23 hour 40", x.seen(40, 0, 0), BAD);
        due("23 house -1", x.seen(0, -1, 0), BAD);
        due("23 house 8", x.seen(0, 8, 0), BAD);
        due("23 much -1", x.seen(0, 0, -1), BAD);
        due("23 much 5", x.seen(0, 0, 5), BAD);
        for (int i = 1; i <= 8; i++) {
            due("23 seen " + i, x.seen(39, 7, 4), i);
        }
        due("23 a ninth", x.seen(0, 0, 0), FULL);
        due("23 BAD ahead of FULL", x.seen(0, 0, 5), BAD);
        due("24 forget", x.forget(), 8);
        due("24 forget again", x.forget(), 0);
        due("24 count(7)", x.count(7), 0);
    }

    // 25
    private static void never() {
        TownBagpipes x = town(".a4w", "");
        due("25 no pinches", x.never(), 0);
        x.pinch(0, 0);
        x.pinch(1, 0);
        due("25 nothing seen", x.never(), 3);
        x.seen(0, 0, 2);
        due("25 the first never was", x.never(), 1);
        x.seen(1, 0, 0);
        due("25 the second was", x.never(), 1);
        x.seen(1, 0, 2);
        due("25 none", x.never(), 0);
        x.forget();
        x.seen(0, 1, 0);
        due("25 a house that is not there", x.never(), 0);
        x.forget();
        x.pinch(0, 0);
        x.seen(0, 0, 2);
        due("25 one of two like ones is not enough", x.never(), 0);
        due("25 pinches are as before", x.got(0, 0, 0), 0);
    }

    // 26
    private static void was() {
        TownBagpipes x = town(".a1r;ab9s", "");
        due("26 nothing seen", x.was(0), 1022);
        x.seen(0, 0, 3);
        due("26 three", x.was(0), 1 << 3);
        due("26 the other's width does not help", x.was(1), 0);
        x.forget();
        x.seen(0, 0, 4);
        due("26 four and more", x.was(0), 1008);
        x.seen(0, 1, 1);
        due("26 five and more", x.was(0), 992);
        x.seen(0, 1, 0);
        due("26 none", x.was(0), 0);
        due("26 was(2)", x.was(2), BAD);
        due("26 was(-1)", x.was(-1), BAD);
        due("26 its width is as before", x.house(0, 2), 1);
    }

    // 27
    private static void starts() {
        TownBagpipes x = town(".a9r", NOBODY);
        due("27 all", x.starts(0), 61);
        due("27 the least", x.starts(1), 0);
        due("27 the greatest", x.starts(2), 60);
        x.seen(0, 0, 4);
        due("27 four and more", x.starts(0), 57);
        due("27 the least", x.starts(1), 4);
        x.seen(1, 0, 2);
        due("27 six alone", x.starts(0), 1);
        due("27 the least", x.starts(1), 6);
        due("27 the greatest", x.starts(2), 6);
        x.seen(2, 0, 1);
        due("27 none", x.starts(0), 0);
        due("27 no least", x.starts(1), NONE);
        due("27 no greatest", x.starts(2), NONE);
        due("27 starts(3)", x.starts(3), BAD);
        due("27 starts(-1)", x.starts(-1), BAD);
        due("27 START is as before", x.set(0, 1), 30);
    }

    // 28
    private static void ask() {
        TownBagpipes x = town(".a1swr", "");
        due("28 when it runs", x.ask(0), 2);
        x.seen(2, 0, 4);
        due("28 all are alike in all hours", x.ask(0), 0);
        x.forget();
        x.seen(1, 0, 2);
        due("28 two to nine: still when it runs", x.ask(0), 2);
        x.seen(1, 0, 1);
        due("28 no widths", x.ask(0), 0);
        due("28 ask(1)", x.ask(1), BAD);
        due("28 ask(-1)", x.ask(-1), BAD);
        x.forget();
        x.pinch(2, 0);
        due("28 pinched then: the next one", x.ask(0), 5);
        TownBagpipes y = town(".a9s;ab9r;ac9wr", "");
        // House 0 takes 1, house 1 up to 4, house 2 what its pipe still lets through.
        y.seen(1, 1, 4);
        y.seen(1, 2, 1);
        due("28 one width is left", y.was(0), 1 << 6);
        due("28 one is alike in all hours", y.ask(0), 0);
        askCountsTheEnds();
    }

    private static void askCountsTheEnds() {
        // In hour 1 house 0 works, and house 1 gets what its pipe still lets through: nothing, if it is 1 or 2 wide.
        TownBagpipes x = town(".a9sw;ab9r", "");
        x.seen(1, 1, 0);
        due("28 the two narrowest", x.was(0), (1 << 1) + (1 << 2));
        due("28 part when it works", x.ask(0), 1);
        // All run, so 8 or 9 go out in an hour, and of 20 there are 4 or 2 left for hour 2.
        TownBagpipes y = town(".a9r;ab9r;ac9r", NOBODY);
        y.set(0, 20);
        y.seen(0, 1, 4);
        due("28 the two widest", y.was(0), (1 << 8) + (1 << 9));
        due("28 part when the bag is nearly empty", y.ask(0), 2);
    }

    // 29
    private static void moth() {
        TownBagpipes x = town(".a9s;.b1w", NOBODY);
        x.set(0, 60);
        x.wipe(0);
        Checks.typeAll(x, 0, ".a9s");
        x.set(0, 40);
        fraction(x, 5, 0, 1, 1);
        x.leak(0, 1, 0);
        fraction(x, 4, 0, 3, 4);
        fraction(x, 0, 0, 1, 1);
        fraction(x, 16, 0, 0, 1);
        fraction(x, 5, 0, 11, 16);
        x.leak(3, 1, 0);
        fraction(x, 4, 0, 9, 16);
        x.set(0, 60);
        x.back(0);
        x.leak(39, 9, 0);
        x.leak(0, 2, 0);
        fraction(x, 8, 0, 1, 4);
        x.set(0, 40);
        for (int i = 0; i < 3; i++) {
            x.leak(0, 1, 0);
        }
        fraction(x, 1, 0, 11390625, 16777216);
        fraction(x, 16, 0, 0, 1);
        long bad = -9223372036854775806L;
        due("29 c -1", x.moth(-1, 0, 0), bad);
        due("29 c 17", x.moth(17, 0, 0), bad);
        due("29 house 1", x.moth(0, 1, 0), bad);
        due("29 house -1", x.moth(0, -1, 0), bad);
        due("29 what 2", x.moth(0, 0, 2), bad);
        due("29 what -1", x.moth(0, 0, -1), bad);
        due("29 leaks are as before", x.bag(0, 1), 1 + 2 + 3);
        due("29 short anyway", town(".a1w", "").moth(3, 0, 0), 0);
        due("29 0 by 1", town(".a1w", "").moth(3, 0, 1), 1);
        TownBagpipes y = town(".a9s", NOBODY);
        y.set(0, 40);
        y.pinch(0, 0);
        due("29 short in the first hour alone", y.moth(3, 0, 0), 0);
        y.back(1);
        // Of two leaks of 1 for an hour each, one is borne, both are not: 1 less 3 of 16 squared.
        y.set(0, 41);
        y.leak(0, 1, 1);
        y.leak(1, 1, 2);
        fraction(y, 3, 0, 247, 256);
    }

    private static void fraction(TownBagpipes x, int c, int house, long above, long below) {
        due("29 moth(" + c + ", " + house + ", 0)", x.moth(c, house, 0), above);
        due("29 moth(" + c + ", " + house + ", 1)", x.moth(c, house, 1), below);
    }

    // 30
    private static void year() {
        TownBagpipes x = town(".a9s", "9");
        x.set(0, 0);
        x.set(2, 1);
        x.set(1, 99);
        // The first lots of 10 by seed 1 are 8 (16838) and 6 (38526 = 5758 + 32768).
        due("30 no lots: 3 each, less 1", x.year(1, 0, 1), 40 * 2);
        due("30 one lot", x.year(1, 1, 1), 7 + 39 * 2);
        due("30 two lots", x.year(1, 2, 1), 7 + 5 + 38 * 2);
        due("30 nobody is short", x.year(1, 2, 0), 0);
        for (int seed : new int[] {0, 1, 7, -5, Integer.MIN_VALUE, Integer.MAX_VALUE}) {
            for (int n : new int[] {0, 1, 17, 39, 40}) {
                yearByItself(x, seed, n);
            }
        }
        due("30 n -1", x.year(1, -1, 0), BAD);
        due("30 n 41", x.year(1, 41, 0), BAD);
        due("30 what 2", x.year(1, 0, 2), BAD);
        due("30 what -1", x.year(1, 0, -1), BAD);
        due("30 elbows are as before", x.elbows(0), 9);
    }

    private static void yearByItself(TownBagpipes x, int seed, int n) {
        long s = seed;
        long air = 0;
        int shorts = 0;
        for (int hour = 0; hour < 40; hour++) {
            long elbows = 3;
            if (hour < n) {
                s = (s * 1103515245L + 12345L) & 0xffffffffL;
                elbows = s / 65536 % 10;
            }
            air = Math.min(99, air + elbows);
            if (air == 0) {
                shorts++;
            } else {
                air--;
            }
        }
        due("30 year(" + seed + ", " + n + ", 0)", x.year(seed, n, 0), shorts);
        due("30 year(" + seed + ", " + n + ", 1)", x.year(seed, n, 1), air);
    }

    // 31
    private static void sheet() {
        TownBagpipes x = new TownBagpipes();
        due("31 s -1", x.sheet(-1, 0, 1), BAD);
        due("31 s 4", x.sheet(4, 0, 1), BAD);
        due("31 form -1", x.sheet(0, -1, 1), BAD);
        due("31 form 3", x.sheet(0, 3, 1), BAD);
        due("31 n 61", x.sheet(0, 0, 61), BAD);
        due("31 BAD ahead of SIZE", x.sheet(0, 3, -1), BAD);
        due("31 BAD is no finding", x.count(8), 0);
        due("31 n -1", x.sheet(0, 0, -1), SIZE);
        due("31 its number", x.count(8), 5);
        due("31 least", x.sheet(0, 0, Integer.MIN_VALUE), SIZE);
        due("31 still lost", x.lose(0), NULL);
        due("31 none", x.sheet(0, 0, 0), 0);
        due("31 none had", x.lose(0), 0);
        due("31 sixty", x.sheet(3, 2, 60), 60);
        x.put(3, 2, 59, 7);
        due("31 a new one", x.sheet(3, 2, 60), 60);
        due("31 is of zeros", x.get(3, 2, 59), 0);
        x.put(3, 2, 0, 7);
        x.sheet(3, 2, 1);
        due("31 from the first on", x.get(3, 2, 0), 0);
        due("31 of another form", x.sheet(3, 1, 2), 2);
        due("31 that form", x.get(3, 1, 1), 0);
    }

    // 32
    private static void lose() {
        TownBagpipes x = new TownBagpipes();
        due("32 lose(-1)", x.lose(-1), BAD);
        due("32 lose(4)", x.lose(4), BAD);
        x.sheet(1, 1, 9);
        due("32 had", x.lose(1), 9);
        due("32 lost", x.lose(1), NULL);
        due("32 its number", x.count(8), 1);
    }

    // 33, 34
    private static void putAndGet() {
        TownBagpipes x = new TownBagpipes();
        due("33 lost", x.put(0, 0, 0, 1), NULL);
        due("34 lost", x.get(0, 0, 0), LEAST);
        // 99978440 is 5F58CC8 in base 16: its lowest byte is C8, its lowest two are 8CC8.
        int[] kept = {0xC8 - 0x100, 0x8CC8 - 0x10000, 99978440};
        for (int form = 0; form <= 2; form++) {
            x.sheet(form, form, 3);
            due("33 put", x.put(form, form, 2, 99978440), 1);
            due("34 get: the lowest bits", x.get(form, form, 2), kept[form]);
            due("33 another form", x.put(form, (form + 1) % 3, 9, 1), CAST);
            due("33 its number", x.count(8), 3);
            due("33 no such item", x.put(form, form, 3, 1), INDEX);
            due("33 its number", x.count(8), 2);
            due("33 below 0", x.put(form, form, -1, 1), INDEX);
            due("34 another form", x.get(form, (form + 1) % 3, 0), LEAST);
            due("34 its number", x.count(8), 3);
            due("34 no such item", x.get(form, form, 3), LEAST);
            due("34 its number", x.count(8), 2);
            due("34 far off", x.get(form, form, Integer.MAX_VALUE), LEAST);
        }
        x.put(0, 0, 0, 128);
        due("34 a byte's sign", x.get(0, 0, 0), -128);
        x.put(1, 1, 0, 32768);
        due("34 a short's sign", x.get(1, 1, 0), -32768);
        due("33 s 4", x.put(4, 0, 0, 0), BAD);
        due("33 s -1", x.put(-1, 0, 0, 0), BAD);
        due("33 BAD ahead of NULL", x.put(3, 3, 0, 0), BAD);
        due("33 form -1", x.put(0, -1, 0, 0), BAD);
        due("33 NULL ahead of INDEX", x.put(3, 0, -1, 0), NULL);
        due("34 s 4", x.get(4, 0, 0), LEAST);
        due("34 form 3", x.get(0, 3, 0), LEAST);
        due("34 BAD is no finding", x.count(8), 1);
    }

    // 35
    private static void copy() {
        TownBagpipes x = new TownBagpipes();
        items(x, 0, 2, 1, 2, 3, 4, 5);
        items(x, 1, 2, 9, 9, 9);
        items(x, 2, 1, 7, 7);
        due("35 s -1", x.copy(-1, 0, 1, 0, 1), BAD);
        due("35 t 4", x.copy(0, 0, 4, 0, 1), BAD);
        due("35 BAD ahead of NULL", x.copy(3, 0, 4, 0, 1), BAD);
        due("35 s lost", x.copy(3, 0, 0, 0, 1), NULL);
        due("35 t lost", x.copy(0, 0, 3, 0, -1), NULL);
        due("35 unlike forms", x.copy(0, 0, 2, 0, -1), STORE);
        due("35 its number", x.count(8), 4);
        due("35 i below 0", x.copy(0, -1, 1, 0, 1), INDEX);
        due("35 j below 0", x.copy(0, 0, 1, -1, 1), INDEX);
        due("35 n below 0", x.copy(0, 0, 1, 0, -1), INDEX);
        due("35 not so many of s", x.copy(0, 3, 1, 0, 3), INDEX);
        due("35 not so many of t", x.copy(0, 0, 1, 1, 3), INDEX);
        due("35 far more", x.copy(0, 2, 1, 2, Integer.MAX_VALUE), INDEX);
        due("35 far off", x.copy(0, Integer.MAX_VALUE, 1, 0, 1), INDEX);
        due("35 copy", x.copy(0, 2, 1, 1, 2), 1);
        row(x, 1, 9, 3, 4);
        due("35 none at the ends", x.copy(0, 5, 1, 3, 0), 1);
        due("35 none behind the end", x.copy(0, 6, 1, 3, 0), INDEX);
        due("35 upward, as they were", x.copy(0, 0, 0, 1, 4), 1);
        row(x, 0, 1, 1, 2, 3, 4);
        due("35 downward, as they were", x.copy(0, 1, 0, 0, 4), 1);
        row(x, 0, 1, 2, 3, 4, 4);
    }

    private static void row(TownBagpipes x, int s, int... want) {
        for (int i = 0; i < want.length; i++) {
            due("35 item " + i + " of " + s, x.get(s, 2, i), want[i]);
        }
    }

    // 36
    private static void write() {
        TownBagpipes x = town(".a9swr;.b9r", "");
        due("36 house 2", x.write(2, 0), BAD);
        due("36 house -1", x.write(-1, 0), BAD);
        due("36 s 4", x.write(0, 4), BAD);
        due("36 s -1", x.write(0, -1), BAD);
        due("36 lost", x.write(0, 0), NULL);
        x.sheet(0, 0, 5);
        due("36 as many as there are", x.write(0, 0), 5);
        due("36 item 2", x.get(0, 0, 2), 4);
        due("36 item 0", x.get(0, 0, 0), 1);
        due("36 item 4", x.get(0, 0, 4), 2);
        items(x, 1, 2, new int[60]);
        x.put(1, 2, 40, 77);
        due("36 forty at most", x.write(1, 1), 40);
        due("36 item 39", x.get(1, 2, 39), 4);
        due("36 item 40 stays", x.get(1, 2, 40), 77);
        x.sheet(2, 1, 0);
        due("36 none", x.write(0, 2), 0);
    }

    // 37
    private static void count() {
        TownBagpipes x = town(".a1w;.b9s", "012");
        x.leak(0, 1, 0);
        x.pinch(0, 1);
        x.pinch(0, 1);
        x.seen(0, 0, 0);
        x.lose(0);
        long[] want = {2, 3, 9, 3, 1, 2, 41, 1, 1};
        for (int what = 0; what < want.length; what++) {
            due("37 count(" + what + ")", x.count(what), want[what]);
        }
        due("37 count(9)", x.count(9), BAD);
        due("37 count(-1)", x.count(-1), BAD);
    }

    // 38
    private static void digest() {
        TownBagpipes x = town(".a5swr;ab2w;.c9rs;cd1r", "3120010203");
        x.leak(2, 3, 9);
        x.leak(5, 2, 0);
        x.pinch(1, 2);
        x.pinch(7, 0);
        x.seen(1, 2, 1);
        due("38 a full town", x.digest(), Checks.digestByCalls(x));
        due("38 a new one", new TownBagpipes().digest(), Checks.digestByCalls(new TownBagpipes()));
        TownBagpipes faulty = town(".a5swr;", "31x");
        due("38 a faulty one", faulty.digest(), Checks.digestByCalls(faulty));
        long before = x.digest();
        x.sheet(0, 0, -1);
        due("38 findings are not in it", x.digest(), before);
    }

    private static void refusalsChangeNothing() {
        TownBagpipes x = town(".a5swr;ab2w", "31200");
        x.leak(2, 3, 9);
        x.pinch(1, 1);
        x.seen(1, 1, 0);
        long before = x.digest();
        for (int wild : WILD) {
            x.type(wild, 1);
            x.type(1, wild);
            x.wipe(wild);
            x.undo(wild);
            x.set(wild, 1);
            x.set(0, wild);
            x.leak(wild, 1, 1);
            x.leak(1, wild, 1);
            x.leak(1, 1, wild);
            x.pinch(wild, 1);
            x.pinch(1, wild);
            x.back(wild);
            x.read(wild);
            x.read(0);
            x.seen(wild, 1, 1);
            x.seen(1, wild, 1);
            x.seen(1, 1, wild);
            x.elbow(wild);
            x.shut(wild, 0);
            x.shut(0, wild);
            x.patch(wild);
            x.was(wild);
            x.starts(wild);
            x.ask(wild);
            x.moth(wild, 0, 0);
            x.year(0, wild, 0);
            due("refusals change nothing (" + wild + ")", x.digest(), before);
        }
    }
}
