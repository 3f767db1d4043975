import java.math.BigInteger;
import java.util.ArrayList;
import java.util.Arrays;
import java.util.List;
import java.util.function.Consumer;
import java.util.stream.IntStream;

/** The document once more, as plainly and as slowly as can be: nothing is kept between calls but what was told. */
final class TownModel {
    static final int NONE = -1, BAD = -2, NOT = -3, FULL = -4;

    /** What the hours follow from. */
    static final class Plan {
        List<House> houses = new ArrayList<>();
        int[] elbows = new int[40];
        int start, room, lift;
        List<int[]> leaks = new ArrayList<>();
        List<int[]> pinches = new ArrayList<>();
    }

    static final class House {
        int on, note, wide;
        String does;

        int done(int hour) {
            return "swr".indexOf(does.charAt(hour % does.length()));
        }

        int need(int hour) {
            return new int[] {1, 2, 4}[done(hour)];
        }
    }

    /** What came of a plan. */
    static final class Story {
        int[] air = new int[40], lost = new int[40], chord = new int[40], held = new int[40];
        int[][] got = new int[40][8];

        long shortsOf(int house) {
            return Arrays.stream(held).filter(bits -> (bits >> house & 1) == 1).count();
        }

        int shorts() {
            return Arrays.stream(held).map(Integer::bitCount).sum();
        }

        int first(int who) {
            return IntStream.range(0, 40).filter(h -> (held[h] & who) != 0).findFirst().orElse(NONE);
        }
    }

    private final StringBuilder[] texts = {new StringBuilder(), new StringBuilder()};
    private int start = 30, room = 60, lift = 4;
    private final List<int[]> leaks = new ArrayList<>();
    private List<int[]> pinches = new ArrayList<>();
    private final List<int[]> sights = new ArrayList<>();
    private final Object[] sheets = new Object[4];
    private int finding;

    // ---- texts

    static int faultOfHouses(String text) {
        if (text.isEmpty()) return NONE;
        String[] parts = text.split(";", -1);
        int from = 0;
        for (int k = 0; k < parts.length; k++) {
            if (k == 8) return from;
            String[] may = {"." + "abcdefgh".substring(0, k), "abcdefg", "123456789", "swr", "swr", "swr"};
            for (int j = 0; j < parts[k].length(); j++) {
                if (j >= may.length || may[j].indexOf(parts[k].charAt(j)) < 0) return from + j;
            }
            if (parts[k].length() < 4) return from + parts[k].length();
            from += parts[k].length() + 1;
        }
        return NONE;
    }

    static int faultOfElbows(String text) {
        String rest = text.replaceFirst("^[0-9]*", "");
        return rest.isEmpty() ? NONE : text.length() - rest.length();
    }

    int fault(int text) {
        if (text != 0 && text != 1) return BAD;
        return text == 0 ? faultOfHouses(texts[0].toString()) : faultOfElbows(texts[1].toString());
    }

    int type(int text, int b) {
        if (text != 0 && text != 1 || b < 0 || b > 255) return BAD;
        if (texts[text].length() == (text == 0 ? 55 : 40)) return FULL;
        return texts[text].append((char) b).length();
    }

    int wipe(int text) {
        if (text != 0 && text != 1) return BAD;
        int had = texts[text].length();
        texts[text].setLength(0);
        return had;
    }

    int undo(int text) {
        if (text != 0 && text != 1) return BAD;
        if (texts[text].length() == 0) return NOT;
        texts[text].setLength(texts[text].length() - 1);
        return texts[text].length();
    }

    // ---- the town

    Plan plan() {
        Plan p = new Plan();
        if (fault(0) == NONE && texts[0].length() > 0) {
            for (String part : texts[0].toString().split(";")) {
                House h = new House();
                h.on = part.charAt(0) == '.' ? NONE : part.charAt(0) - 'a';
                h.note = part.charAt(1) - 'a';
                h.wide = part.charAt(2) - '0';
                h.does = part.substring(3);
                p.houses.add(h);
            }
        }
        String told = fault(1) == NONE ? texts[1].toString() : "";
        for (int hour = 0; hour < 40; hour++) {
            p.elbows[hour] = hour < told.length() ? told.charAt(hour) - '0' : 3;
        }
        p.start = start;
        p.room = room;
        p.lift = lift;
        p.leaks.addAll(leaks);
        p.pinches.addAll(pinches);
        return p;
    }

    Plan but(Consumer<Plan> change) {
        Plan p = plan();
        change.accept(p);
        return p;
    }

    static Story story(Plan p) {
        Story s = new Story();
        int air = p.start;
        for (int hour = 0; hour < 40; hour++) {
            air = Math.min(p.room, air + p.lift * p.elbows[hour]);
            int wants = 0;
            for (int[] l : p.leaks) {
                boolean never = l[2] <= l[0];
                if (hour >= l[0] && (never || hour < l[2])) wants += l[1];
            }
            s.lost[hour] = Math.min(air, wants);
            air -= s.lost[hour];
            int[] through = new int[8];
            for (int h = 0; h < p.houses.size(); h++) {
                House house = p.houses.get(h);
                int much = Math.min(house.need(hour), air);
                for (int q = h; q != NONE; q = p.houses.get(q).on) much = Math.min(much, lets(p, hour, q) - through[q]);
                for (int q = h; q != NONE; q = p.houses.get(q).on) through[q] += much;
                air -= much;
                s.got[hour][h] = much;
                if (much > 0) s.chord[hour] |= 1 << house.note;
                if (much < house.need(hour)) s.held[hour] |= 1 << h;
            }
            s.air[hour] = air;
        }
        return s;
    }

    private static int lets(Plan p, int hour, int house) {
        for (int[] pinch : p.pinches) {
            if (pinch[1] == house && (pinch[0] == hour || pinch[0] == NONE)) return 0;
        }
        return p.houses.get(house).wide;
    }

    boolean noHouse(int house) {
        return house < 0 || house >= plan().houses.size();
    }

    static boolean noHour(int hour) {
        return hour < 0 || hour > 39;
    }

    int house(int house, int what) {
        if (noHouse(house) || what < 0 || what > 6) return BAD;
        House h = plan().houses.get(house);
        if (what < 4) return new int[] {h.on, h.note, h.wide, h.does.length()}[what];
        return what - 4 < h.does.length() ? "swr".indexOf(h.does.charAt(what - 4)) : NONE;
    }

    int elbows(int hour) {
        return noHour(hour) ? BAD : plan().elbows[hour];
    }

    int set(int what, int v) {
        if (what < 0 || what > 2) return BAD;
        if (v < new int[] {0, 1, 1}[what] || v > new int[] {60, 99, 9}[what]) return BAD;
        int before = new int[] {start, room, lift}[what];
        if (what == 0) start = v;
        if (what == 1) room = v;
        if (what == 2) lift = v;
        return before;
    }

    int leak(int hour, int much, int patched) {
        if (noHour(hour) || much < 1 || much > 9 || noHour(patched)) return BAD;
        if (leaks.size() == 6) return FULL;
        leaks.add(new int[] {hour, much, patched});
        return leaks.size();
    }

    int pinch(int hour, int house) {
        if (noHour(hour) || house < 0 || house > 7) return BAD;
        if (pinches.size() == 6) return FULL;
        pinches.add(new int[] {hour, house});
        return pinches.size();
    }

    int back(int what) {
        if (what != 0 && what != 1) return BAD;
        List<int[]> of = what == 0 ? leaks : pinches;
        if (of.isEmpty()) return NOT;
        of.remove(of.size() - 1);
        return of.size();
    }

    int read(int s) {
        if (s < 0 || s > 3) return BAD;
        if (sheets[s] == null) return find(1);
        int came = 0;
        for (int i = 0; i + 1 < length(s); i += 2) {
            if (pinch((int) item(s, i), (int) item(s, i + 1)) < 0) break;
            came++;
        }
        return came;
    }

    // ---- hours

    int bag(int hour, int what) {
        if (noHour(hour) || what < 0 || what > 3) return BAD;
        Story s = story(plan());
        return new int[][] {s.air, s.lost, s.chord, s.held}[what][hour];
    }

    int got(int hour, int house, int what) {
        if (noHour(hour) || noHouse(house) || what < 0 || what > 2) return BAD;
        House h = plan().houses.get(house);
        return new int[] {story(plan()).got[hour][house], h.need(hour), h.done(hour)}[what];
    }

    int held(int house, int what) {
        if (noHouse(house) || what < 0 || what > 1) return BAD;
        Story s = story(plan());
        return what == 0 ? s.first(1 << house) : (int) s.shortsOf(house);
    }

    int first() {
        return story(plan()).first(255);
    }

    int quiet() {
        Story s = story(plan());
        return IntStream.range(0, 40).filter(h -> s.air[h] == 0).findFirst().orElse(NONE);
    }

    int well() {
        return (int) Arrays.stream(story(plan()).held).filter(bits -> bits == 0).count();
    }

    // ---- plans

    int elbow(int what) {
        if (what != 0 && what != 1) return BAD;
        int which = NONE, least = NONE;
        for (int hour = 0; hour < 40; hour++) {
            int at = hour;
            int many = story(but(p -> p.elbows[at]++)).shorts();
            if (which == NONE || many < least) {
                which = hour;
                least = many;
            }
        }
        return what == 0 ? which : least;
    }

    int shut(int house, int what) {
        if (noHouse(house) || what != 0 && what != 1) return BAD;
        int which = NONE, least = NONE;
        for (int other = 0; other < plan().houses.size(); other++) {
            if (other == house) continue;
            int it = other;
            int many = (int) story(but(p -> p.pinches.add(new int[] {NONE, it}))).shortsOf(house);
            if (which == NONE || many < least) {
                which = other;
                least = many;
            }
        }
        return what == 0 ? which : least;
    }

    int least() {
        for (int v = 0; v <= 60; v++) {
            int it = v;
            if (story(but(p -> p.start = it)).shorts() == 0) return v;
        }
        return NONE;
    }

    int patch(int what) {
        if (what != 0 && what != 1) return BAD;
        int which = NONE, least = NONE;
        for (int i = 0; i < leaks.size(); i++) {
            int it = i;
            int many = story(but(p -> p.leaks.remove(it))).shorts();
            if (which == NONE || many < least) {
                which = i;
                least = many;
            }
        }
        return what == 0 ? which : least;
    }

    // ---- seen

    int seen(int hour, int house, int much) {
        if (noHour(hour) || house < 0 || house > 7 || much < 0 || much > 4) return BAD;
        if (sights.size() == 8) return FULL;
        sights.add(new int[] {hour, house, much});
        return sights.size();
    }

    int forget() {
        int had = sights.size();
        sights.clear();
        return had;
    }

    boolean fits(Plan p) {
        Story s = story(p);
        return sights.stream().allMatch(x -> x[1] < p.houses.size() && s.got[x[0]][x[1]] == x[2]);
    }

    int never() {
        return IntStream.range(0, pinches.size()).filter(i -> fits(but(p -> p.pinches.remove(i)))).map(i -> 1 << i).sum();
    }

    int[] widths(int house) {
        return IntStream.rangeClosed(1, 9).filter(w -> fits(but(p -> p.houses.get(house).wide = w))).toArray();
    }

    int was(int house) {
        return noHouse(house) ? BAD : Arrays.stream(widths(house)).map(w -> 1 << w).sum();
    }

    int starts(int what) {
        if (what < 0 || what > 2) return BAD;
        int[] fit = IntStream.rangeClosed(0, 60).filter(v -> fits(but(p -> p.start = v))).toArray();
        if (what == 0) return fit.length;
        if (fit.length == 0) return NONE;
        return what == 1 ? fit[0] : fit[fit.length - 1];
    }

    int ask(int house) {
        if (noHouse(house)) return BAD;
        int[][] alike = new int[40][5];
        for (int w : widths(house)) {
            Story s = story(but(p -> p.houses.get(house).wide = w));
            for (int hour = 0; hour < 40; hour++) alike[hour][s.got[hour][house]]++;
        }
        int best = 0;
        for (int hour = 1; hour < 40; hour++) {
            if (Arrays.stream(alike[hour]).max().getAsInt() < Arrays.stream(alike[best]).max().getAsInt()) best = hour;
        }
        return best;
    }

    // ---- chance, years

    long moth(int c, int house, int what) {
        if (c < 0 || c > 16 || noHouse(house) || what != 0 && what != 1) return Long.MIN_VALUE + 2;
        BigInteger above = BigInteger.ZERO;
        for (int there = 0; there < 1 << leaks.size(); there++) {
            List<int[]> some = new ArrayList<>();
            BigInteger weight = BigInteger.ONE;
            for (int i = 0; i < leaks.size(); i++) {
                boolean is = (there >> i & 1) == 1;
                if (is) some.add(leaks.get(i));
                weight = weight.multiply(BigInteger.valueOf(is ? c : 16 - c));
            }
            if (weight.signum() != 0 && story(but(p -> p.leaks = some)).shortsOf(house) == 0) above = above.add(weight);
        }
        BigInteger below = BigInteger.valueOf(16).pow(leaks.size());
        BigInteger by = above.gcd(below);
        return (what == 0 ? above : below).divide(by).longValueExact();
    }

    int year(int seed, int n, int what) {
        if (n < 0 || n > 40 || what != 0 && what != 1) return BAD;
        BigInteger wrap = BigInteger.ONE.shiftLeft(32);
        BigInteger s = BigInteger.valueOf(seed);
        int[] row = new int[40];
        for (int hour = 0; hour < 40; hour++) {
            row[hour] = 3;
            if (hour < n) {
                s = s.multiply(BigInteger.valueOf(1103515245)).add(BigInteger.valueOf(12345)).mod(wrap);
                row[hour] = s.shiftRight(16).intValueExact() % 10;
            }
        }
        Story story = story(but(p -> p.elbows = row));
        return what == 0 ? story.shorts() : story.air[39];
    }

    // ---- sheets: real rows, as the Java language has them

    int find(int number) {
        finding = number;
        return -10 - number;
    }

    int length(int s) {
        return java.lang.reflect.Array.getLength(sheets[s]);
    }

    long item(int s, int i) {
        return java.lang.reflect.Array.getLong(sheets[s], i);
    }

    int form(int s) {
        return sheets[s] instanceof byte[] ? 0 : sheets[s] instanceof short[] ? 1 : 2;
    }

    void store(int s, int i, int v) {
        if (sheets[s] instanceof byte[] row) row[i] = (byte) v;
        if (sheets[s] instanceof short[] row) row[i] = (short) v;
        if (sheets[s] instanceof int[] row) row[i] = v;
    }

    int sheet(int s, int form, int n) {
        if (s < 0 || s > 3 || form < 0 || form > 2 || n > 60) return BAD;
        if (n < 0) return find(5);
        sheets[s] = form == 0 ? new byte[n] : form == 1 ? new short[n] : new int[n];
        return n;
    }

    int lose(int s) {
        if (s < 0 || s > 3) return BAD;
        if (sheets[s] == null) return find(1);
        int had = length(s);
        sheets[s] = null;
        return had;
    }

    int put(int s, int form, int i, int v) {
        if (s < 0 || s > 3 || form < 0 || form > 2) return BAD;
        if (sheets[s] == null) return find(1);
        if (form(s) != form) return find(3);
        if (i < 0 || i >= length(s)) return find(2);
        store(s, i, v);
        return 1;
    }

    int get(int s, int form, int i) {
        if (s < 0 || s > 3 || form < 0 || form > 2) return Integer.MIN_VALUE;
        if (sheets[s] == null) {
            find(1);
        } else if (form(s) != form) {
            find(3);
        } else if (i < 0 || i >= length(s)) {
            find(2);
        } else {
            return (int) item(s, i);
        }
        return Integer.MIN_VALUE;
    }

    int copy(int s, int i, int t, int j, int n) {
        if (s < 0 || s > 3 || t < 0 || t > 3) return BAD;
        if (sheets[s] == null || sheets[t] == null) return find(1);
        if (form(s) != form(t)) return find(4);
        if (i < 0 || j < 0 || n < 0 || (long) i + n > length(s) || (long) j + n > length(t)) return find(2);
        int[] kept = new int[n];
        for (int k = 0; k < n; k++) kept[k] = (int) item(s, i + k);
        for (int k = 0; k < n; k++) store(t, j + k, kept[k]);
        return 1;
    }

    int write(int house, int s) {
        if (noHouse(house) || s < 0 || s > 3) return BAD;
        if (sheets[s] == null) return find(1);
        Story story = story(plan());
        int hour = 0;
        while (hour < 40 && hour < length(s)) {
            store(s, hour, story.got[hour][house]);
            hour++;
        }
        return hour;
    }

    int count(int what) {
        if (what < 0 || what > 8) return BAD;
        int told = fault(1) == NONE ? texts[1].length() : 0;
        return new int[] {plan().houses.size(), told, texts[0].length(), texts[1].length(), leaks.size(), pinches.size(),
            story(plan()).shorts(), sights.size(), finding}[what];
    }

    long digest() {
        List<Long> all = new ArrayList<>();
        for (int what = 0; what <= 7; what++) all.add((long) count(what));
        for (int text = 0; text <= 1; text++) all.add((long) fault(text));
        for (int hour = 0; hour < 40; hour++) {
            all.add((long) elbows(hour));
            for (int what = 0; what <= 3; what++) all.add((long) bag(hour, what));
        }
        for (int h = 0; h < plan().houses.size(); h++) {
            for (int what = 0; what <= 6; what++) all.add((long) house(h, what));
            for (int hour : new int[] {0, 7, 20, 39}) {
                for (int what = 0; what <= 2; what++) all.add((long) got(hour, h, what));
            }
            for (int what = 0; what <= 1; what++) all.add((long) held(h, what));
            for (int what = 0; what <= 1; what++) all.add((long) shut(h, what));
            all.add((long) was(h));
            all.add((long) ask(h));
            for (int what = 0; what <= 1; what++) all.add(moth(5, h, what));
        }
        for (long one : new long[] {first(), quiet(), well(), elbow(0), elbow(1), least(), patch(0), patch(1), never(),
            starts(0), starts(1), starts(2), year(7, 25, 0), year(7, 25, 1)}) {
            all.add(one);
        }
        long h = 17;
        for (long one : all) h = 31 * h + one;
        return h;
    }
}
