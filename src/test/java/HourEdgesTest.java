import java.io.IOException;

/** The edges of the bag, leaks, pinches and hours: the document's terms and promises 8 to 18, sentence by sentence. */
public final class HourEdgesTest {
    private static final int NONE = Sentences.NONE, BAD = Sentences.BAD, NOT = Sentences.NOT, FULL = Sentences.FULL;
    private static final String NOBODY = Sentences.NOBODY;
    private static final String ONE_EACH = "1".repeat(40);

    private final Sentences s;

    private HourEdgesTest(Sentences s) {
        this.s = s;
    }

    public static void main(String[] args) throws IOException {
        Sentences s = new Sentences();
        HourEdgesTest t = new HourEdgesTest(s);
        t.hours();
        t.start();
        t.room();
        t.lift();
        t.leakFrom();
        t.leakPatched();
        t.sixLeaks();
        t.pinchedNothing();
        t.sixPinches();
        t.roomAtMost();
        t.leaksThen();
        t.needs();
        t.whicheverIsLeast();
        t.together();
        t.shortHouse();
        t.chord();
        t.got();
        t.held();
        t.first();
        t.quiet();
        t.well();
        t.set();
        t.back();
        s.end();
    }

    private static TownBagpipes town(String houses, String elbows, int start) {
        TownBagpipes x = Sentences.town(houses, elbows);
        x.set(0, start);
        return x;
    }

    private void hours() {
        s.says("HOURS are 0 to 39.");
        TownBagpipes x = Sentences.town(".a9s", "");
        for (int hour : new int[] {-1, 40}) {
            s.due("elbows", x.elbows(hour), BAD);
            s.due("leak from", x.leak(hour, 1, 0), BAD);
            s.due("leak patched", x.leak(0, 1, hour), BAD);
            s.due("pinch", x.pinch(hour, 0), BAD);
            s.due("bag", x.bag(hour, 0), BAD);
            s.due("got", x.got(hour, 0, 0), BAD);
            s.due("seen", x.seen(hour, 0, 1), BAD);
        }
        for (int hour : new int[] {0, 39}) {
            s.due("elbows", x.elbows(hour), 3);
            s.due("bag", x.bag(hour, 1), 0);
            s.due("got", x.got(hour, 0, 0), 1);
        }
        s.due("leak", x.leak(0, 1, 39), 1);
        s.due("leak", x.leak(39, 1, 0), 2);
        s.due("pinch", x.pinch(0, 0), 1);
        s.due("pinch", x.pinch(39, 0), 2);
        s.due("seen", x.seen(0, 0, 1), 1);
        s.due("seen", x.seen(39, 0, 1), 2);
    }

    private void start() {
        s.says("START (0 to 60; 30 at first), how much AIR is in THE BAG at first");
        TownBagpipes x = Sentences.town("", NOBODY);
        s.due("at first", x.bag(0, 0), 30);
        s.due("the least", x.set(0, 0), 30);
        s.due("nothing", x.bag(0, 0), 0);
        s.due("the greatest", x.set(0, 60), 0);
        s.due("sixty", x.bag(0, 0), 60);
        s.due("below", x.set(0, -1), BAD);
        s.due("above", x.set(0, 61), BAD);
        s.due("still sixty", x.bag(39, 0), 60);
    }

    private void room() {
        s.says("ROOM (1 to 99; 60 at first)");
        TownBagpipes x = Sentences.town("", "9".repeat(40));
        s.due("at first", x.bag(39, 0), 60);
        s.due("the greatest", x.set(1, 99), 60);
        s.due("99", x.bag(39, 0), 99);
        s.due("the least", x.set(1, 1), 99);
        s.due("1", x.bag(39, 0), 1);
        s.due("below", x.set(1, 0), BAD);
        s.due("above", x.set(1, 100), BAD);
        s.due("still 1", x.bag(0, 0), 1);
    }

    private void lift() {
        s.says("LIFT (1 to 9; 4 at first), how much AIR an elbow gives");
        TownBagpipes x = town("", "1", 0);
        s.due("at first", x.bag(0, 0), 4);
        s.due("the least", x.set(2, 1), 4);
        s.due("1", x.bag(0, 0), 1);
        s.due("the greatest", x.set(2, 9), 1);
        s.due("9", x.bag(0, 0), 9);
        s.due("below", x.set(2, 0), BAD);
        s.due("above", x.set(2, 10), BAD);
        s.due("still 9", x.bag(0, 0), 9);
        TownBagpipes y = town("", "9", 0);
        y.set(2, 9);
        y.set(1, 99);
        s.due("nine by nine", y.bag(0, 0), 81);
    }

    private void leakFrom() {
        s.says("from an HOUR on, so much (1 to 9) an HOUR");
        TownBagpipes x = town("", NOBODY, 60);
        x.leak(39, 9, 0);
        s.due("ahead of the last hour", x.bag(38, 0), 60);
        s.due("in the last hour", x.bag(39, 0), 51);
        x.back(0);
        x.leak(0, 1, 0);
        s.due("in the first hour", x.bag(0, 0), 59);
        s.due("in each hour", x.bag(39, 0), 20);
        s.due("nothing", x.leak(0, 0, 0), BAD);
        s.due("too much", x.leak(0, 10, 0), BAD);
        s.due("none came", x.count(4), 1);
    }

    private void leakPatched() {
        s.says("PATCHED from another HOUR on (never, if that is no later)");
        int[][] fromPatchedHours = {{5, 6, 1}, {5, 7, 2}, {5, 39, 34}, {5, 5, 35}, {5, 4, 35}, {5, 0, 35}, {0, 0, 40}, {0, 1, 1}, {39, 39, 1}, {38, 39, 1}};
        for (int[] row : fromPatchedHours) {
            TownBagpipes x = town("", NOBODY, 60);
            x.leak(row[0], 1, row[1]);
            String told = "from " + row[0] + " patched from " + row[1];
            s.due(told + ": in so many hours", 60 - x.bag(39, 0), row[2]);
            s.due(told + ": in its first hour", x.bag(row[0], 1), 1);
            s.due(told + ": in the hour of the patch", x.bag(row[1], 1), row[1] == row[0] ? 1 : 0);
        }
    }

    private void sixLeaks() {
        s.says("LEAKS, 6 at most (0 on)");
        TownBagpipes x = town("", NOBODY, 60);
        for (int i = 1; i <= 6; i++) {
            s.due("leak " + i, x.leak(0, 9, 0), i);
        }
        s.due("a seventh", x.leak(0, 9, 0), FULL);
        s.due("six are there", x.count(4), 6);
        s.due("six leak", x.bag(0, 1), 54);
        s.due("BAD ahead of FULL: hour", x.leak(40, 9, 0), BAD);
        s.due("BAD ahead of FULL: much", x.leak(0, 0, 0), BAD);
        s.due("BAD ahead of FULL: patched", x.leak(0, 9, -1), BAD);
        s.due("one undone", x.back(0), 5);
        s.due("another sixth", x.leak(0, 1, 0), 6);
        s.due("and it is the one that leaks", x.bag(0, 1), 46);
    }

    private void pinchedNothing() {
        s.says("in an HOUR of a HOUSE (0 to 7): nothing comes through its pipe then");
        TownBagpipes x = Sentences.town(".a9s;ab9s;bc9s;.d9s;.e9s;.f9s;.g9s;ga9s", "");
        x.pinch(0, 0);
        s.due("all on its pipe are short", x.bag(0, 3), 1 + 2 + 4);
        s.due("the hour behind", x.bag(1, 3), 0);
        x.pinch(39, 7);
        s.due("the last house in the last hour", x.bag(39, 3), 128);
        s.due("the hour ahead", x.bag(38, 3), 0);
        x.pinch(2, 2);
        s.due("it alone, not those on whose pipe it is", x.bag(2, 3), 4);
        s.due("what stays in the bag", x.bag(2, 0) - x.bag(1, 0), 12 - 7);
        TownBagpipes y = Sentences.town(".a9s", "");
        y.pinch(0, 1);
        s.due("a house that is not there", y.bag(0, 3), 0);
        Sentences.typeAll(y, 0, ";.b9s");
        s.due("it comes later", y.bag(0, 3), 2);
        y.pinch(0, 1);
        s.due("pinched twice", y.bag(0, 3), 2);
        y.back(1);
        s.due("one of two undone", y.bag(0, 3), 2);
        y.back(1);
        s.due("both undone", y.bag(0, 3), 0);
    }

    private void sixPinches() {
        s.says("PINCHES, 6 at most (0 on)");
        TownBagpipes x = Sentences.town(".a9s", "");
        s.due("house -1", x.pinch(0, -1), BAD);
        s.due("house 8", x.pinch(0, 8), BAD);
        for (int i = 1; i <= 6; i++) {
            s.due("pinch " + i, x.pinch(i, 0), i);
        }
        s.due("a seventh", x.pinch(7, 0), FULL);
        s.due("is not there", x.got(7, 0, 0), 1);
        s.due("the sixth is", x.got(6, 0, 0), 0);
        s.due("BAD ahead of FULL: hour", x.pinch(40, 0), BAD);
        s.due("BAD ahead of FULL: house", x.pinch(0, 8), BAD);
        s.due("six", x.count(5), 6);
    }

    private void roomAtMost() {
        s.says("In an HOUR first THE BAG has LIFT more for each elbow, ROOM at most");
        int[][] startRoomElbowsBag = {{0, 8, 1, 4}, {4, 8, 1, 8}, {5, 8, 1, 8}, {4, 8, 2, 8}, {8, 8, 0, 8}, {8, 8, 9, 8}, {3, 8, 0, 3}, {60, 60, 1, 60}, {60, 99, 9, 96}};
        for (int[] row : startRoomElbowsBag) {
            TownBagpipes x = town("", "" + row[2], row[0]);
            x.set(1, row[1]);
            s.due("START " + row[0] + ", ROOM " + row[1] + ", elbows " + row[2], x.bag(0, 0), row[3]);
        }
        TownBagpipes y = town(".a9r", "1" + NOBODY.substring(1), 8);
        y.set(1, 8);
        s.due("the room counts ahead of what houses get", y.bag(0, 0), 4);
    }

    private void leaksThen() {
        s.says("then it has less by all LEAKS, 0 at least");
        int[][] startLeakRestLost = {{10, 9, 1, 9}, {9, 9, 0, 9}, {8, 9, 0, 8}, {0, 9, 0, 0}};
        for (int[] row : startLeakRestLost) {
            TownBagpipes x = town("", NOBODY, row[0]);
            x.leak(0, row[1], 1);
            s.due("rest of " + row[0], x.bag(0, 0), row[2]);
            s.due("lost of " + row[0], x.bag(0, 1), row[3]);
        }
        TownBagpipes y = town("", NOBODY, 10);
        y.leak(0, 6, 1);
        y.leak(0, 6, 1);
        s.due("both together", y.bag(0, 1), 10);
        s.due("0 at least", y.bag(0, 0), 0);
        TownBagpipes z = town(".a9s", ONE_EACH, 60);
        z.set(1, 4);
        z.leak(0, 4, 0);
        s.due("behind the room, ahead of houses", z.got(0, 0, 0), 0);
        s.due("in the last hour too", z.got(39, 0, 0), 0);
    }

    private void needs() {
        s.says("who sleeps NEEDS 1, who works 2, who runs 4");
        TownBagpipes x = Sentences.town(".a9swr", "");
        int[] needs = {1, 2, 4};
        for (int hour = 0; hour < 3; hour++) {
            s.due("needed in hour " + hour, x.got(hour, 0, 1), needs[hour]);
            s.due("got in hour " + hour, x.got(hour, 0, 0), needs[hour]);
        }
        s.due("what is needed does not hang on what is there", town(".a1r", NOBODY, 0).got(0, 0, 1), 4);
    }

    private void whicheverIsLeast() {
        s.says("Each gets what it NEEDS, or what is in THE BAG, or what can still come by its own pipe, by the one on which that is, and so on, whichever is least");
        s.due("what it needs", town(".a9r", NOBODY, 60).got(0, 0, 0), 4);
        s.due("just what is in the bag", town(".a9r", NOBODY, 4).got(0, 0, 0), 4);
        s.due("what is in the bag", town(".a9r", NOBODY, 3).got(0, 0, 0), 3);
        s.due("an empty bag", town(".a9r", NOBODY, 0).got(0, 0, 0), 0);
        s.due("just its own pipe", town(".a4r", NOBODY, 60).got(0, 0, 0), 4);
        s.due("its own pipe", town(".a3r", NOBODY, 60).got(0, 0, 0), 3);
        s.due("the narrowest pipe", town(".a1r", NOBODY, 60).got(0, 0, 0), 1);
        s.due("the one on which it is", town(".a3s;ab9r", NOBODY, 60).got(0, 1, 0), 2);
        s.due("and so on", town(".a4s;ab9s;bc9r", NOBODY, 60).got(0, 2, 0), 2);
        s.due("the bag is less than the pipes", town(".a4s;ab9s;bc9r", NOBODY, 3).got(0, 2, 0), 1);
        s.due("by numbers", town(".a9r;.b9s", NOBODY, 4).got(0, 1, 0), 0);
        s.due("eight pipes deep", town(".a9s;aa9s;ba9s;ca9s;da9s;ea9s;fa9s;ga9r", NOBODY, 60).got(0, 7, 0), 2);
    }

    private void together() {
        s.says("each pipe lets through in an HOUR, to its HOUSE and all that are on it together, as much as it is WIDE, one that is PINCHED nothing");
        s.due("just as much", town(".a7w;ab9s;ac9r", NOBODY, 60).bag(0, 3), 0);
        s.due("one less", town(".a6w;ab9s;ac9r", NOBODY, 60).bag(0, 3), 4);
        s.due("those on it first by numbers", town(".a3s;ab9w;ac9s", NOBODY, 60).bag(0, 3), 4);
        TownBagpipes x = town(".a5r;ab9r", NOBODY, 60);
        s.due("anew in each hour", x.got(1, 1, 0), 1);
        x.pinch(0, 1);
        s.due("what does not go by one pipe is left for none ahead", x.got(0, 0, 0), 4);
        TownBagpipes y = town(".a5s;ab9r;ac9w", NOBODY, 60);
        y.pinch(0, 1);
        s.due("a pinched one leaves its share to the next", y.got(0, 2, 0), 2);
        s.due("else there is none", y.got(1, 2, 0), 0);
        TownBagpipes z = town(".a5s;ab9r;bc9s", NOBODY, 60);
        s.due("those on it count for the pipe below too", z.got(0, 2, 0), 0);
    }

    private void shortHouse() {
        s.says("A HOUSE that gets less than it NEEDS is SHORT.");
        s.due("all", town(".a9r", NOBODY, 4).bag(0, 3), 0);
        s.due("one less", town(".a9r", NOBODY, 3).bag(0, 3), 1);
        s.due("nothing", town(".a9r", NOBODY, 0).bag(0, 3), 1);
        s.due("all eight", town(".a9s;.a9s;.a9s;.a9s;.a9s;.a9s;.a9s;.a9s", NOBODY, 0).bag(39, 3), 255);
        s.due("the last of eight", town(".a9s;.a9s;.a9s;.a9s;.a9s;.a9s;.a9s;.a9s", NOBODY, 7).bag(0, 3), 128);
    }

    private void chord() {
        s.says("CHORD: NOTES of HOUSES that got AIR in it, as bits");
        s.due("none", town(".a9s", NOBODY, 0).bag(0, 2), 0);
        s.due("the lowest", town(".a9s", NOBODY, 1).bag(0, 2), 1);
        s.due("the highest", town(".g9s", NOBODY, 1).bag(0, 2), 64);
        s.due("a house that is short but got some", town(".g1r", NOBODY, 9).bag(0, 2), 64);
        s.due("one note of two houses", town(".c9s;.c9s", NOBODY, 9).bag(0, 2), 4);
        s.due("all", town(".a9s;.b9s;.c9s;.d9s;.e9s;.f9s;.g9s", NOBODY, 9).bag(0, 2), 127);
        TownBagpipes x = town(".a9s;.b9s", "", 30);
        s.due("both", x.bag(5, 2), 3);
        x.pinch(5, 1);
        s.due("one is pinched behind the first asking", x.bag(5, 2), 1);
        x.back(1);
        x.pinch(5, 0);
        s.due("the other", x.bag(5, 2), 2);
        s.due("no such number", x.bag(5, 4), BAD);
        s.due("nor below", x.bag(5, -1), BAD);
    }

    private void got() {
        s.says("What it got (what = 0), NEEDED (1), what is DONE (2). BAD.");
        TownBagpipes x = Sentences.town(".a9s;.a9s;.a9s;.a9s;.a9s;.a9s;.a9s;.g3swr", "9".repeat(40));
        s.due("the last house", x.got(38, 7, 0), 3);
        s.due("it needed", x.got(38, 7, 1), 4);
        s.due("it did", x.got(38, 7, 2), 2);
        s.due("a ninth", x.got(38, 8, 0), BAD);
        s.due("house -1", x.got(38, -1, 0), BAD);
        s.due("no such number", x.got(38, 7, 3), BAD);
        s.due("nor below", x.got(38, 7, -1), BAD);
        s.due("in a town without houses", new TownBagpipes().got(0, 0, 0), BAD);
    }

    private void held() {
        s.says("HELD of a HOUSE: the first HOUR in which it is SHORT; NONE; in how many HOURS it is.");
        TownBagpipes x = Sentences.town(".a9s;.b9s", "");
        s.due("never", x.held(0, 0), NONE);
        s.due("in none", x.held(0, 1), 0);
        x.pinch(39, 0);
        s.due("in the last hour", x.held(0, 0), 39);
        s.due("in one", x.held(0, 1), 1);
        x.pinch(0, 0);
        s.due("in the first hour", x.held(0, 0), 0);
        s.due("in two", x.held(0, 1), 2);
        s.due("the other one never", x.held(1, 0), NONE);
        s.due("always", town(".a9s", NOBODY, 0).held(0, 1), 40);
        s.due("no such house", x.held(2, 0), BAD);
        s.due("no such number", x.held(0, 2), BAD);
    }

    private void first() {
        s.says("FIRST: the first HOUR in which any is; NONE.");
        s.due("no houses", new TownBagpipes().first(), NONE);
        TownBagpipes x = Sentences.town(".a9s;.b9s", "");
        s.due("none", x.first(), NONE);
        x.pinch(39, 1);
        s.due("the last hour", x.first(), 39);
        x.pinch(0, 1);
        s.due("the first hour", x.first(), 0);
    }

    private void quiet() {
        s.says("QUIET: the first HOUR in which nothing is in THE BAG behind it; NONE.");
        s.due("never", new TownBagpipes().quiet(), NONE);
        s.due("at once", town("", NOBODY, 0).quiet(), 0);
        s.due("the last hour", town(".a9s", NOBODY, 40).quiet(), 39);
        s.due("one is left", town(".a9s", NOBODY, 41).quiet(), NONE);
        s.due("quiet though none is short", town(".a9r", ONE_EACH, 0).quiet(), 0);
        TownBagpipes x = town("", "0", 1);
        x.leak(0, 1, 1);
        s.due("by a leak", x.quiet(), 0);
    }

    private void well() {
        s.says("WELL: in how many HOURS all get what they NEED.");
        s.due("no houses", new TownBagpipes().well(), 40);
        s.due("none", town(".a9s", NOBODY, 0).well(), 0);
        s.due("one", town(".a9s", NOBODY, 1).well(), 1);
        s.due("all", town(".a9s", NOBODY, 40).well(), 40);
        s.due("one house alone does not do", town(".a9s;.b1w", "", 30).well(), 0);
    }

    private void set() {
        s.says("START (what = 0), ROOM (1), LIFT (2): what it was. BAD.");
        TownBagpipes x = Sentences.town("", NOBODY);
        s.due("what -1", x.set(-1, 1), BAD);
        s.due("what 3", x.set(3, 1), BAD);
        s.due("START", x.set(0, 7), 30);
        s.due("ROOM", x.set(1, 8), 60);
        s.due("LIFT", x.set(2, 9), 4);
        s.due("START refused", x.set(0, 61), BAD);
        s.due("ROOM refused", x.set(1, 0), BAD);
        s.due("LIFT refused", x.set(2, 0), BAD);
        s.due("START it was", x.set(0, 7), 7);
        s.due("ROOM it was", x.set(1, 8), 8);
        s.due("LIFT it was", x.set(2, 9), 9);
        TownBagpipes y = Sentences.town("", "1");
        s.due("asked ahead", y.bag(0, 0), 34);
        y.set(0, 9);
        s.due("START counts at once", y.bag(0, 0), 13);
        y.set(1, 10);
        s.due("ROOM counts at once", y.bag(0, 0), 10);
        y.set(1, 60);
        y.set(2, 1);
        s.due("LIFT counts at once", y.bag(0, 0), 10);
    }

    private void back() {
        s.says("The last LEAK (what = 0), PINCH (1) is undone: how many are left. BAD; NOT: there is none.");
        TownBagpipes x = Sentences.town(".a9s", NOBODY);
        s.due("BAD ahead of NOT", x.back(2), BAD);
        s.due("BAD below", x.back(-1), BAD);
        x.pinch(0, 0);
        s.due("no leak, though a pinch", x.back(0), NOT);
        s.due("asked ahead", x.got(0, 0, 0), 0);
        s.due("the only pinch", x.back(1), 0);
        s.due("undone at once", x.got(0, 0, 0), 1);
        x.leak(0, 9, 0);
        s.due("no pinch, though a leak", x.back(1), NOT);
        s.due("asked ahead", x.bag(0, 1), 9);
        s.due("the only leak", x.back(0), 0);
        s.due("undone at once", x.bag(0, 1), 0);
        s.due("NOT is no finding", x.count(8), 0);
    }
}
