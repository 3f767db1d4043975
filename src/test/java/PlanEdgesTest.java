import java.io.IOException;

/** The edges of plans, of what was seen, of chance and years: promises 19 to 30, sentence by sentence. */
public final class PlanEdgesTest {
    private static final int NONE = Sentences.NONE, BAD = Sentences.BAD, FULL = Sentences.FULL;
    private static final String NOBODY = Sentences.NOBODY;
    private static final String EIGHT_ASLEEP = ".a9s;.b9s;.c9s;.d9s;.e9s;.f9s;.g9s;.a9s";

    private final Sentences s;

    private PlanEdgesTest(Sentences s) {
        this.s = s;
    }

    public static void main(String[] args) throws IOException {
        Sentences s = new Sentences();
        PlanEdgesTest t = new PlanEdgesTest(s);
        t.elbow();
        t.shut();
        t.least();
        t.patch();
        t.eightSeen();
        t.oneThatThereIsNot();
        t.forget();
        t.never();
        t.was();
        t.starts();
        t.ask();
        t.askLater();
        t.mothEnds();
        t.lowestTerms();
        t.mothOfSix();
        t.year();
        t.lots();
        t.plansChangeNothing();
        s.end();
    }

    private static TownBagpipes town(String houses, String elbows, int start) {
        TownBagpipes x = Sentences.town(houses, elbows);
        x.set(0, start);
        return x;
    }

    private void elbow() {
        s.says("ELBOW: the HOUR in which one more had better be, so that in fewest HOURS in all a HOUSE is SHORT (each HOUSE, each HOUR), of like ones the least: which; in how many.");
        s.due("nobody is short anyway", Sentences.town(".a9s", "").elbow(0), 0);
        s.due("in none", Sentences.town(".a9s", "").elbow(1), 0);
        s.due("no houses", new TownBagpipes().elbow(0), 0);
        // The bag holds 1, which each hour brings and takes; only the last hour brings none.
        TownBagpipes x = town(".a9s", "1".repeat(39) + "0", 0);
        x.set(1, 1);
        s.due("the last hour", x.elbow(0), 39);
        s.due("then in none", x.elbow(1), 0);
        // Nine bring 9 of the 10 that hour 0 needs; all three are short in the 39 hours behind it.
        TownBagpipes y = town(".a9r;.b9r;.c9w", "9" + NOBODY.substring(1), 0);
        y.set(2, 1);
        s.due("a tenth elbow", y.elbow(0), 0);
        s.due("each house, each hour", y.elbow(1), 39 * 3);
        s.due("what 2", y.elbow(2), BAD);
        s.due("what -1", y.elbow(-1), BAD);
        s.due("always short", town(".a1w", "", 60).elbow(1), 40);
        s.due("always short: the least", town(".a1w", "", 60).elbow(0), 0);
    }

    private void shut() {
        s.says("SHUT for a HOUSE: the other HOUSE that had better be PINCHED always, so that the one is SHORT in fewest HOURS, of like ones the least: which; in how many; NONE: there is no other one.");
        TownBagpipes one = Sentences.town(".a9s", "");
        s.due("no other one: which", one.shut(0, 0), NONE);
        s.due("no other one: in how many", one.shut(0, 1), NONE);
        s.due("BAD ahead of NONE", one.shut(0, 2), BAD);
        TownBagpipes x = Sentences.town(EIGHT_ASLEEP, "");
        s.due("of like ones the least", x.shut(7, 0), 0);
        s.due("not itself", x.shut(0, 0), 1);
        s.due("in none", x.shut(0, 1), 0);
        s.due("house 8", x.shut(8, 0), BAD);
        s.due("house -1", x.shut(-1, 0), BAD);
        // Of ten in each hour the sleepers take six, and house 6 the other four, which house 7 would need.
        TownBagpipes y = town(".a9s;.b9s;.c9s;.d9s;.e9s;.f9s;.g9r;.a9r", "9".repeat(40), 0);
        y.set(1, 10);
        s.due("the last but one", y.shut(7, 0), 6);
        s.due("in how many", y.shut(7, 1), 0);
        TownBagpipes z = Sentences.town(".a9s;ab9s", "");
        s.due("the one on whose pipe it is", z.shut(1, 0), 0);
        s.due("is short always then", z.shut(1, 1), 40);
        s.due("though it is not, as it is", z.held(1, 1), 0);
        s.due("of those on its pipe", z.shut(0, 0), 1);
        TownBagpipes pinched = Sentences.town(".a9s;.b9s", "");
        pinched.pinch(3, 0);
        s.due("its own pinches stay", pinched.shut(0, 1), 1);
        TownBagpipes thin = town(".a9s;.b9r", "1".repeat(40), 0);
        thin.set(2, 3);
        s.due("a pinched one gives nothing back", thin.shut(1, 1), 40);
    }

    private void least() {
        s.says("LEAST: the least START (0 to 60) by which nobody is ever SHORT; NONE.");
        s.due("no houses", Sentences.town("", NOBODY).least(), 0);
        s.due("the greatest", Sentences.town(".a9sw", NOBODY).least(), 60);
        TownBagpipes x = Sentences.town(".a9sw", NOBODY);
        x.leak(0, 1, 1);
        s.due("61 were needed", x.least(), NONE);
        TownBagpipes y = Sentences.town(".a9s", NOBODY);
        y.set(1, 40);
        s.due("just the room", y.least(), 40);
        y.set(1, 39);
        s.due("more than the room", y.least(), NONE);
        y.set(1, 60);
        y.pinch(39, 0);
        s.due("no start helps against a pinch", y.least(), NONE);
        TownBagpipes z = town(".a9s", NOBODY, 0);
        s.due("whatever START was told", z.least(), 40);
        s.due("one", town(".a9s", "0" + "1".repeat(39), 0).least(), 1);
    }

    private void patch() {
        s.says("PATCH: the LEAK that had better be PATCHED from its first HOUR on, so that in fewest HOURS a HOUSE is SHORT, of like ones the least: which; in how many; NONE: there are none.");
        TownBagpipes x = town(".a9s", "1".repeat(40), 0);
        s.due("there are none: which", x.patch(0), NONE);
        s.due("there are none: in how many", x.patch(1), NONE);
        s.due("BAD ahead of NONE", x.patch(2), BAD);
        s.due("BAD below", x.patch(-1), BAD);
        x.set(1, 4);
        x.leak(39, 9, 0);
        s.due("the only one", x.patch(0), 0);
        s.due("then in none", x.patch(1), 0);
        for (int i = 0; i < 4; i++) {
            x.leak(39, 9, 0);
        }
        s.due("of like ones the least", x.patch(0), 0);
        s.due("one more is too much", x.patch(1), 1);
        TownBagpipes y = town(".a9s", "1".repeat(40), 0);
        y.set(1, 4);
        for (int i = 0; i < 5; i++) {
            y.leak(0, 3, 0);
            y.back(0);
            y.leak(i, 1, i + 1);
        }
        y.leak(0, 4, 39);
        s.due("the sixth", y.patch(0), 5);
        s.due("in none", y.patch(1), 0);
        s.due("as it is", y.count(6), 39);
        TownBagpipes z = Sentences.town("", "");
        z.leak(0, 1, 0);
        s.due("no houses", z.patch(0), 0);
        s.due("in none of them", z.patch(1), 0);
    }

    private void eightSeen() {
        s.says("SEEN, 8 at most: in an HOUR a HOUSE (0 to 7; one that there is not: never) got so much (0 to 4).");
        TownBagpipes x = new TownBagpipes();
        s.due("hour 40", x.seen(40, 0, 0), BAD);
        s.due("house 8", x.seen(0, 8, 0), BAD);
        s.due("house -1", x.seen(0, -1, 0), BAD);
        s.due("much 5", x.seen(0, 0, 5), BAD);
        s.due("much -1", x.seen(0, 0, -1), BAD);
        s.due("none came", x.count(7), 0);
        for (int i = 1; i <= 8; i++) {
            s.due("seen " + i, x.seen(i % 2 * 39, i % 2 * 7, i % 2 * 4), i);
        }
        s.due("a ninth", x.seen(0, 0, 0), FULL);
        s.due("BAD ahead of FULL: hour", x.seen(-1, 0, 0), BAD);
        s.due("BAD ahead of FULL: house", x.seen(0, 8, 0), BAD);
        s.due("BAD ahead of FULL: much", x.seen(0, 0, 5), BAD);
        s.due("eight", x.count(7), 8);
        TownBagpipes y = Sentences.town(".a9s", NOBODY);
        for (int i = 0; i < 7; i++) {
            y.seen(i, 0, 1);
        }
        s.due("seven of them", y.starts(1), 7);
        y.seen(11, 0, 1);
        s.due("the eighth counts too", y.starts(1), 12);
    }

    private void oneThatThereIsNot() {
        s.says("one that there is not: never");
        TownBagpipes x = Sentences.town(".a9s", "");
        x.pinch(0, 0);
        x.seen(0, 1, 0);
        s.due("even nothing does not come out: never", x.never(), 0);
        s.due("was", x.was(0), 0);
        s.due("starts", x.starts(0), 0);
        s.due("the least of none", x.starts(1), NONE);
        s.due("ask", x.ask(0), 0);
        Sentences.typeAll(x, 0, ";ab9s");
        s.due("it comes later", x.was(0), 1022);
        x.forget();
        x.seen(0, 7, 0);
        s.due("the eighth is not there", x.starts(0), 0);
        x.wipe(0);
        s.due("nor with no houses", x.starts(0), 0);
    }

    private void forget() {
        s.says("All SEEN are forgotten: how many.");
        TownBagpipes x = Sentences.town(".a9s", "");
        s.due("none", x.forget(), 0);
        x.seen(0, 0, 0);
        s.due("seen", x.starts(0), 0);
        s.due("one", x.forget(), 1);
        s.due("is no longer seen", x.starts(0), 61);
        for (int i = 0; i < 8; i++) {
            x.seen(i, 0, 0);
        }
        s.due("all", x.forget(), 8);
        s.due("then one may be", x.seen(0, 0, 1), 1);
        s.due("and counts alone", x.starts(0), 61);
    }

    private void never() {
        s.says("NEVER: PINCHES each of which, had it alone not been, makes all that was SEEN come out so, as bits.");
        TownBagpipes x = Sentences.town(".a9s", "");
        s.due("no pinches", x.never(), 0);
        for (int hour = 0; hour < 6; hour++) {
            x.pinch(hour, 0);
        }
        s.due("nothing seen: all", x.never(), 63);
        x.seen(5, 0, 1);
        s.due("the last", x.never(), 32);
        x.forget();
        x.seen(0, 0, 1);
        s.due("the first", x.never(), 1);
        x.seen(1, 0, 1);
        s.due("two at once", x.never(), 0);
        x.forget();
        x.seen(6, 0, 1);
        s.due("what none of them hinders: all", x.never(), 63);
        x.forget();
        x.seen(0, 0, 0);
        s.due("what the first alone hinders: all others", x.never(), 62);
        TownBagpipes y = Sentences.town(".a9s", "");
        y.pinch(0, 7);
        y.seen(0, 0, 1);
        s.due("a pinch of a house that is not there", y.never(), 1);
    }

    private void was() {
        s.says("WIDE of a HOUSE: 1 to 9, in place of its own, likewise, as bits (bit 1 on).");
        TownBagpipes x = Sentences.town(EIGHT_ASLEEP, "");
        s.due("all", x.was(7), 1022);
        x.seen(0, 7, 0);
        s.due("none", x.was(7), 0);
        s.due("house 8", x.was(8), BAD);
        s.due("house -1", x.was(-1), BAD);
        // Three that run on one pipe: what the last gets is what the pipe lets through above 8.
        TownBagpipes y = Sentences.town(".a5r;ab9r;ac9r", "9".repeat(40));
        y.seen(0, 2, 1);
        s.due("the widest alone", y.was(0), 1 << 9);
        y.forget();
        y.seen(0, 0, 1);
        s.due("the narrowest alone", y.was(0), 1 << 1);
        y.forget();
        y.seen(0, 2, 0);
        s.due("all but the widest", y.was(0), 1022 - (1 << 9));
        s.due("its own is not told by it", y.house(0, 2), 5);
        TownBagpipes z = Sentences.town(".a5r", "");
        z.seen(0, 0, 0);
        s.due("no width is 0", z.was(0), 0);
        z.pinch(0, 0);
        s.due("a pinch makes it 0 by all", z.was(0), 1022);
    }

    private void starts() {
        s.says("STARTS: 0 to 60, in place of that told, likewise: how many; the least; the greatest; NONE.");
        due(Sentences.town("", ""), "nothing seen", 61, 0, 60);
        TownBagpipes x = Sentences.town(".a9sw", NOBODY);
        x.seen(39, 0, 2);
        due(x, "only the greatest", 1, 60, 60);
        x.forget();
        x.seen(0, 0, 0);
        due(x, "only the least", 1, 0, 0);
        x.seen(0, 0, 1);
        due(x, "none", 0, NONE, NONE);
        x.forget();
        x.seen(0, 0, 1);
        due(x, "all but 0", 60, 1, 60);
        x.forget();
        x.seen(39, 0, 0);
        due(x, "all up to 58", 59, 0, 58);
        s.due("what 3", x.starts(3), BAD);
        s.due("what -1", x.starts(-1), BAD);
        s.due("START told stays", x.set(0, 30), 30);
    }

    private void due(TownBagpipes x, String of, int many, int least, int greatest) {
        s.due(of + ": how many", x.starts(0), many);
        s.due(of + ": the least", x.starts(1), least);
        s.due(of + ": the greatest", x.starts(2), greatest);
    }

    private void ask() {
        s.says("ASK of a HOUSE: the HOUR in which the greatest number of those WIDTHS by which it gets alike is least, of like ones the least.");
        TownBagpipes x = Sentences.town(EIGHT_ASLEEP, "");
        s.due("alike in all hours", x.ask(7), 0);
        s.due("house 8", x.ask(8), BAD);
        s.due("house -1", x.ask(-1), BAD);
        // Nothing comes until the last hour, in which it runs.
        TownBagpipes y = town(".a9r", "0".repeat(39) + "9", 0);
        s.due("the last hour", y.ask(0), 39);
        s.due("once more", y.ask(0), 39);
        y.seen(39, 0, 3);
        s.due("one width alone", y.ask(0), 0);
        y.forget();
        y.seen(0, 0, 1);
        s.due("no widths", y.ask(0), 0);
        TownBagpipes z = Sentences.town(".a9sr", "");
        s.due("ahead of what was seen", z.ask(0), 1);
        z.seen(1, 0, 4);
        s.due("only those by which what was seen comes out", z.ask(0), 0);
    }

    /** Both answers hang on widths 1 to 9, none less and none more. */
    private void askLater() {
        s.says("1 to 9, in place of its own");
        // When it works, widths part as 1 and 2..9 (eight alike), when it runs as 1, 2, 3 and 4..9 (six alike).
        s.due("six alike are fewer than eight", Sentences.town(".a1wr", "").ask(0), 1);
        s.due("where it runs first", Sentences.town(".a1rw", "").ask(0), 0);
        TownBagpipes x = Sentences.town(".a9s;ab9s", "");
        // House 1 gets something by widths of house 0 from 2 on; house 0 gets alike by all of them.
        x.seen(0, 1, 1);
        s.due("eight widths", x.was(0), 1020);
        s.due("alike by all", x.ask(0), 0);
        TownBagpipes y = town(".a1s;ab9r;ac9r", NOBODY, 11);
        // In hour 0 widths of house 0 let through 1 to 9, so 10 to 2 are left for hour 1, and 9 down to 0 for hour 2:
        // by 9 hour 1 leaves nothing, by 6, 7, 8 too (5, 4, 3 are fewer than they let through), by 5 one is left.
        s.due("all widths are possible", y.was(0), 1022);
        s.due("hour 2 parts 1 to 5 from 6 to 9", y.ask(0), 2);
        // Hour 0 gives 1 by width 1, else 2 (eight alike); hour 1 gives 1 by widths 1 and 2, else nothing (seven alike).
        s.due("no width is 0", town(".a9w;ab9w", NOBODY, 3).ask(0), 1);
    }

    private void mothEnds() {
        s.says("MOTH: each of LEAKS is by c sixteenths (0 to 16), by itself: the chance that a HOUSE is never SHORT: a FRACTION.");
        TownBagpipes x = town(".a9s", NOBODY, 40);
        fraction(x, 0, 1, 1);
        fraction(x, 16, 1, 1);
        x.leak(0, 1, 0);
        fraction(x, 0, 1, 1);
        fraction(x, 16, 0, 1);
        fraction(x, 1, 15, 16);
        fraction(x, 15, 1, 16);
        x.leak(0, 1, 0);
        fraction(x, 0, 1, 1);
        fraction(x, 16, 0, 1);
        fraction(x, 1, 225, 256);
        fraction(x, 15, 1, 256);
        long bad = Long.MIN_VALUE + 2;
        s.due("c -1", x.moth(-1, 0, 0), bad);
        s.due("c 17", x.moth(17, 0, 0), bad);
        s.due("house 1", x.moth(5, 1, 0), bad);
        s.due("house -1", x.moth(5, -1, 0), bad);
        s.due("what 2", x.moth(5, 0, 2), bad);
        s.due("what -1", x.moth(5, 0, -1), bad);
        s.due("no houses", new TownBagpipes().moth(5, 0, 0), bad);
    }

    private void lowestTerms() {
        s.says("FRACTIONS are told in lowest terms, above and below (0 by 1).");
        TownBagpipes x = town(".a9s", NOBODY, 40);
        x.leak(0, 1, 0);
        int[][] cAboveBelow = {{2, 7, 8}, {4, 3, 4}, {6, 5, 8}, {8, 1, 2}, {12, 1, 4}, {14, 1, 8}, {3, 13, 16}};
        for (int[] row : cAboveBelow) {
            fraction(x, row[0], row[1], row[2]);
        }
        TownBagpipes y = town(".a9s", NOBODY, 39);
        y.leak(0, 1, 0);
        for (int c = 0; c <= 16; c++) {
            fraction(y, c, 0, 1);
        }
        TownBagpipes z = town(".a9s", NOBODY, 60);
        z.leak(0, 1, 1);
        for (int c = 0; c <= 16; c++) {
            fraction(z, c, 1, 1);
        }
    }

    private void mothOfSix() {
        s.says("by itself: the chance that a HOUSE is never SHORT");
        TownBagpipes x = town(".a9s", NOBODY, 45);
        for (int i = 0; i < 6; i++) {
            x.leak(0, 1, 1);
        }
        // Five may be, all six may not: 1 less c of 16 to the sixth.
        fraction(x, 1, 16777215, 16777216);
        fraction(x, 15, 16777216 - 11390625, 16777216);
        fraction(x, 8, 63, 64);
        fraction(x, 16, 0, 1);
        x.set(0, 40);
        // None may be.
        fraction(x, 15, 1, 16777216);
        fraction(x, 8, 1, 64);
        TownBagpipes y = town(".a9s;.b9s", NOBODY, 60);
        y.set(1, 60);
        y.leak(0, 1, 0);
        s.due("one house's chance is not another's", y.moth(8, 0, 0) + 10 * y.moth(8, 1, 0), 0);
        y.set(0, 60);
        y.wipe(1);
        Sentences.typeAll(y, 1, "1".repeat(40));
        y.set(2, 1);
        // 60 and 1 an hour bear 2 an hour for 40 hours, and 20 are left; the leak takes 1 more an hour.
        s.due("the first is well", y.moth(8, 0, 0), 1);
        s.due("the second by a half, above", y.moth(8, 1, 0), 1);
        s.due("the second by a half, below", y.moth(8, 1, 1), 2);
        y.leak(39, 1, 0);
        s.due("a leak that came later counts", y.bag(39, 1), 1);
    }

    private void fraction(TownBagpipes x, int c, long above, long below) {
        s.due("moth(" + c + ", 0, 0)", x.moth(c, 0, 0), above);
        s.due("moth(" + c + ", 0, 1)", x.moth(c, 0, 1), below);
    }

    private void year() {
        s.says("YEAR by a SEED: n LOTS of 10 (0 to 40) are ELBOWS, in place of those told (3 in later HOURS)");
        TownBagpipes x = town("", "9".repeat(40), 0);
        x.set(2, 1);
        x.set(1, 99);
        x.leak(0, 3, 0);
        s.due("no lots: 3 in all hours", x.year(1, 0, 1), 0);
        s.due("n -1", x.year(1, -1, 0), BAD);
        s.due("n 41", x.year(1, 41, 0), BAD);
        s.due("what 2", x.year(1, 0, 2), BAD);
        s.due("what -1", x.year(1, 0, -1), BAD);
        s.due("any seed may be", x.year(Integer.MIN_VALUE, 0, 1), 0);
        TownBagpipes y = town(".a9s;.b9s", "", 0);
        s.due("no elbows told, none is short", y.year(5, 0, 0), 0);
        y.pinch(39, 0);
        y.pinch(39, 1);
        s.due("each house, each hour", y.year(5, 0, 0), 2);
        s.due("how much at last", y.year(5, 0, 1), 60);
        s.due("no houses", new TownBagpipes().year(5, 40, 0), 0);
    }

    /** The bag holds but one hour's air, so its last hour tells the last lot. */
    private void lots() {
        s.says("LOTS of m: SEED becomes 1103515245 SEED and 12345, as ints that wrap; its upper 16 bits as a number from 0 on, modulo m.");
        for (int seed : new int[] {0, 1, -1, 7, 123456789, Integer.MIN_VALUE, Integer.MAX_VALUE}) {
            TownBagpipes x = town("", "", 0);
            x.set(2, 1);
            x.set(1, 99);
            for (int i = 0; i < 3; i++) {
                x.leak(0, 3, 0);
            }
            // All that up to nine elbows bring leaks away in each hour but the last, in which the leaks are patched.
            TownBagpipes y = town("", "", 0);
            y.set(2, 1);
            for (int i = 0; i < 3; i++) {
                y.leak(0, 3, 39);
            }
            long lot = seed;
            for (int i = 0; i < 40; i++) {
                lot = (lot * 1103515245L + 12345L) & 0xffffffffL;
            }
            s.due("all leaks away by " + seed, x.year(seed, 40, 1), 0);
            s.due("the fortieth lot by " + seed, y.year(seed, 40, 1), lot / 65536 % 10);
            s.due("39 lots and 3 by " + seed, y.year(seed, 39, 1), 3);
        }
    }

    private void plansChangeNothing() {
        s.says("in place of that told");
        TownBagpipes x = town(".a5swr;ab2w;.c9rs", "3120010203", 17);
        x.leak(2, 3, 9);
        x.leak(20, 1, 0);
        x.pinch(1, 2);
        x.pinch(7, 0);
        x.seen(0, 0, 1);
        long before = x.digest();
        int year = x.year(3, 33, 1);
        for (int house = 0; house < 3; house++) {
            x.shut(house, 0);
            s.due("a year behind shut", x.year(3, 33, 1), year);
            x.was(house);
            x.ask(house);
            x.moth(3, house, 0);
        }
        s.due("a year behind all of them", x.year(3, 33, 1), year);
        x.elbow(0);
        x.least();
        x.patch(0);
        x.never();
        x.starts(0);
        s.due("all behind all of them", x.digest(), before);
        TownBagpipes y = town(".a9s;.b9s", "", 30);
        y.shut(0, 0);
        s.due("none is shut behind shut", y.held(1, 1) + y.held(0, 1), 0);
        y.moth(3, 0, 0);
        y.leak(0, 2, 0);
        s.due("a leak behind moth", y.bag(0, 1), 2);
        y.patch(0);
        s.due("it is there behind patch", y.leak(0, 1, 0) + 10 * y.bag(0, 1), 32);
        y.pinch(0, 0);
        y.never();
        y.pinch(0, 1);
        s.due("pinches are there behind never", y.bag(0, 3), 3);
    }
}
