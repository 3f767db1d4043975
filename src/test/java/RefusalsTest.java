import java.io.IOException;
import java.util.ArrayList;
import java.util.List;

/** Every call with every number that it may not be given, in empty, ordinary and full towns: BAD, and nothing changes. */
public final class RefusalsTest {
    private static final int BAD = Sentences.BAD, NOT = Sentences.NOT, FULL = Sentences.FULL;
    private static final int NULL = Sentences.NULL, INDEX = Sentences.INDEX, CAST = Sentences.CAST, STORE = Sentences.STORE, SIZE = Sentences.SIZE;
    /** In place of a limit: no number is BAD on that side. */
    private static final int ANY = Integer.MIN_VALUE;
    private static final int HOUSE = -100;

    private interface Call {
        long on(TownBagpipes x, int[] a);
    }

    /** A call, the numbers between which each of its arguments may be, and how it says BAD. */
    private record Face(String name, Call call, long bad, int[]... limits) {
    }

    private static final int[] TEXT = {0, 1}, BYTE = {0, 255}, HOUR = {0, 39}, EIGHT = {0, 7}, THERE = {0, HOUSE};
    private static final int[] TWO = {0, 1}, THREE = {0, 2}, FOUR = {0, 3}, SHEET = {0, 3}, FORM = {0, 2}, FREE = {ANY, ANY};
    private static final Face[] FACES = {
        new Face("type", (x, a) -> x.type(a[0], a[1]), BAD, TEXT, BYTE),
        new Face("wipe", (x, a) -> x.wipe(a[0]), BAD, TEXT),
        new Face("undo", (x, a) -> x.undo(a[0]), BAD, TEXT),
        new Face("fault", (x, a) -> x.fault(a[0]), BAD, TEXT),
        new Face("house", (x, a) -> x.house(a[0], a[1]), BAD, THERE, new int[] {0, 6}),
        new Face("elbows", (x, a) -> x.elbows(a[0]), BAD, HOUR),
        new Face("set START", (x, a) -> x.set(0, a[0]), BAD, new int[] {0, 60}),
        new Face("set ROOM", (x, a) -> x.set(1, a[0]), BAD, new int[] {1, 99}),
        new Face("set LIFT", (x, a) -> x.set(2, a[0]), BAD, new int[] {1, 9}),
        new Face("set", (x, a) -> x.set(a[0], 5), BAD, THREE),
        new Face("leak", (x, a) -> x.leak(a[0], a[1], a[2]), BAD, HOUR, new int[] {1, 9}, HOUR),
        new Face("pinch", (x, a) -> x.pinch(a[0], a[1]), BAD, HOUR, EIGHT),
        new Face("back", (x, a) -> x.back(a[0]), BAD, TWO),
        new Face("read", (x, a) -> x.read(a[0]), BAD, SHEET),
        new Face("bag", (x, a) -> x.bag(a[0], a[1]), BAD, HOUR, FOUR),
        new Face("got", (x, a) -> x.got(a[0], a[1], a[2]), BAD, HOUR, THERE, THREE),
        new Face("held", (x, a) -> x.held(a[0], a[1]), BAD, THERE, TWO),
        new Face("elbow", (x, a) -> x.elbow(a[0]), BAD, TWO),
        new Face("shut", (x, a) -> x.shut(a[0], a[1]), BAD, THERE, TWO),
        new Face("patch", (x, a) -> x.patch(a[0]), BAD, TWO),
        new Face("seen", (x, a) -> x.seen(a[0], a[1], a[2]), BAD, HOUR, EIGHT, new int[] {0, 4}),
        new Face("was", (x, a) -> x.was(a[0]), BAD, THERE),
        new Face("starts", (x, a) -> x.starts(a[0]), BAD, THREE),
        new Face("ask", (x, a) -> x.ask(a[0]), BAD, THERE),
        new Face("moth", (x, a) -> x.moth(a[0], a[1], a[2]), Long.MIN_VALUE + 2, new int[] {0, 16}, THERE, TWO),
        new Face("year", (x, a) -> x.year(a[0], a[1], a[2]), BAD, FREE, new int[] {0, 40}, TWO),
        new Face("sheet", (x, a) -> x.sheet(a[0], a[1], a[2]), BAD, SHEET, FORM, new int[] {ANY, 60}),
        new Face("lose", (x, a) -> x.lose(a[0]), BAD, SHEET),
        new Face("put", (x, a) -> x.put(a[0], a[1], a[2], a[3]), BAD, SHEET, FORM, FREE, FREE),
        new Face("get", (x, a) -> x.get(a[0], a[1], a[2]), Integer.MIN_VALUE, SHEET, FORM, FREE),
        new Face("copy", (x, a) -> x.copy(a[0], a[1], a[2], a[3], a[4]), BAD, SHEET, FREE, SHEET, FREE, FREE),
        new Face("write", (x, a) -> x.write(a[0], a[1]), BAD, THERE, SHEET),
        new Face("count", (x, a) -> x.count(a[0]), BAD, new int[] {0, 8}),
    };

    private final Sentences s;

    private RefusalsTest(Sentences s) {
        this.s = s;
    }

    public static void main(String[] args) throws IOException {
        Sentences s = new Sentences();
        RefusalsTest t = new RefusalsTest(s);
        for (int state = 0; state < 4; state++) {
            t.eachNumberThatMayNotBe(state);
        }
        t.eachNumberThatMayBe();
        t.refusalsThatAreNotBad();
        t.anyNumbersAtAll();
        s.end();
    }

    /** 0: new; 1: as usual; 2: full; 3: with faults in both texts. */
    private static TownBagpipes town(int state) {
        TownBagpipes x = new TownBagpipes();
        if (state == 1) {
            Sentences.typeAll(x, 0, ".a5swr;ab2w");
            Sentences.typeAll(x, 1, "31200");
            x.leak(2, 3, 9);
            x.pinch(1, 1);
            x.seen(1, 1, 0);
            Sentences.items(x, 0, 0, 4, 0, 5);
            Sentences.items(x, 2, 2, 7);
        } else if (state == 2) {
            Sentences.typeAll(x, 0, ".a1swr;ab2wrs;bc3rsw;cd4swr;de5wrs;ef6rsw;fg7swr;ga8wrs");
            Sentences.typeAll(x, 1, "1234".repeat(10));
            for (int i = 0; i < 6; i++) {
                x.leak(i, i + 1, 20);
                x.pinch(2 * i, i);
            }
            for (int i = 0; i < 8; i++) {
                x.seen(i, i, 0);
            }
            for (int i = 0; i < 4; i++) {
                Sentences.items(x, i, i % 3, i, 2, 3, 4);
            }
            x.sheet(0, 0, -1);
        } else if (state == 3) {
            Sentences.typeAll(x, 0, ".a5swr;ab2wx");
            Sentences.typeAll(x, 1, "3x");
            x.sheet(1, 1, 0);
        }
        return x;
    }

    private static int houses(int state) {
        return state == 1 ? 2 : state == 2 ? 8 : 0;
    }

    /** All that can be asked of a town, the latest finding first, for asking changes it. */
    private static List<Long> all(TownBagpipes x) {
        List<Long> all = new ArrayList<>();
        all.add((long) x.count(8));
        all.add(x.digest());
        all.add((long) x.set(0, 60));
        all.add((long) x.set(1, 99));
        all.add((long) x.set(2, 1));
        for (int sheet = 0; sheet < 4; sheet++) {
            for (int form = 0; form < 3; form++) {
                for (int i = 0; i < 5; i++) {
                    all.add((long) x.get(sheet, form, i));
                }
            }
            all.add((long) x.lose(sheet));
        }
        for (int what = 0; what < 2; what++) {
            for (int i = 0; i < 7; i++) {
                all.add((long) x.back(what));
                all.add((long) x.count(6));
                all.add((long) x.bag(39, 0));
            }
        }
        all.add((long) x.forget());
        for (int text = 0; text < 2; text++) {
            for (int i = 0; i < 7; i++) {
                all.add((long) x.undo(text));
                all.add((long) x.fault(text));
            }
        }
        return all;
    }

    private static int most(int[] limits, int state) {
        return limits[1] == HOUSE ? houses(state) - 1 : limits[1];
    }

    private static int usual(int[] limits, int state) {
        return limits[0] != ANY ? limits[0] : limits[1] != ANY ? Math.max(0, Math.min(1, limits[1])) : 0;
    }

    private void eachNumberThatMayNotBe(int state) {
        s.says("BAD -2 (a number not as told, no such thing)");
        List<Long> before = all(town(state));
        for (Face face : FACES) {
            for (int which = 0; which < face.limits.length; which++) {
                int[] limits = face.limits[which];
                if (limits[0] != ANY) {
                    refused(face, state, which, limits[0] - 1, before);
                    refused(face, state, which, Integer.MIN_VALUE, before);
                }
                if (limits[1] != ANY) {
                    refused(face, state, which, most(limits, state) + 1, before);
                    refused(face, state, which, Integer.MAX_VALUE, before);
                }
            }
        }
    }

    private void refused(Face face, int state, int which, int number, List<Long> before) {
        int[] a = new int[face.limits.length];
        for (int i = 0; i < a.length; i++) {
            a[i] = i == which ? number : usual(face.limits[i], state);
        }
        String told = face.name + java.util.Arrays.toString(a) + " in town " + state;
        TownBagpipes x = town(state);
        s.due(told, face.call.on(x, a), face.bad);
        s.due("nothing changes by " + told, all(x).equals(before) ? 1 : 0, 1);
    }

    private void eachNumberThatMayBe() {
        s.says("Refusals, the first that fits, in the order told at each act");
        for (Face face : FACES) {
            for (int which = 0; which < face.limits.length; which++) {
                int[] limits = face.limits[which];
                int[] ends = {limits[0], limits[1] == ANY ? ANY : most(limits, 1)};
                for (int end : ends) {
                    if (end == ANY || face.name.equals("get")) {
                        continue;
                    }
                    int[] a = new int[face.limits.length];
                    for (int i = 0; i < a.length; i++) {
                        a[i] = i == which ? end : usual(face.limits[i], 1);
                    }
                    long answer = face.call.on(town(1), a);
                    s.due(face.name + java.util.Arrays.toString(a) + " is not BAD", answer != face.bad ? 1 : 0, 1);
                }
            }
        }
    }

    private void refusalsThatAreNotBad() {
        s.says("They change nothing (FINDINGS but count() 8).");
        unchanged("FULL text 0", 2, (x, a) -> x.type(0, 's'), FULL);
        unchanged("FULL text 1", 2, (x, a) -> x.type(1, '1'), FULL);
        unchanged("FULL leaks", 2, (x, a) -> x.leak(0, 1, 0), FULL);
        unchanged("FULL pinches", 2, (x, a) -> x.pinch(0, 0), FULL);
        unchanged("FULL seen", 2, (x, a) -> x.seen(0, 0, 0), FULL);
        unchanged("NOT text 0", 0, (x, a) -> x.undo(0), NOT);
        unchanged("NOT text 1", 0, (x, a) -> x.undo(1), NOT);
        unchanged("NOT leaks", 0, (x, a) -> x.back(0), NOT);
        unchanged("NOT pinches", 0, (x, a) -> x.back(1), NOT);
        unchanged("NULL read", 1, (x, a) -> x.read(1), NULL);
        unchanged("NULL lose", 1, (x, a) -> x.lose(3), NULL);
        unchanged("NULL put", 1, (x, a) -> x.put(1, 0, 0, 9), NULL);
        unchanged("NULL copy from", 1, (x, a) -> x.copy(1, 0, 0, 0, 1), NULL);
        unchanged("NULL copy to", 1, (x, a) -> x.copy(0, 0, 1, 0, 1), NULL);
        unchanged("NULL write", 1, (x, a) -> x.write(0, 1), NULL);
        unchanged("CAST put", 1, (x, a) -> x.put(0, 1, 0, 9), CAST);
        unchanged("INDEX put", 1, (x, a) -> x.put(0, 0, 3, 9), INDEX);
        unchanged("INDEX put below", 1, (x, a) -> x.put(2, 2, -1, 9), INDEX);
        unchanged("STORE copy", 1, (x, a) -> x.copy(0, 0, 2, 0, 1), STORE);
        unchanged("INDEX copy", 1, (x, a) -> x.copy(0, 0, 0, 1, 3), INDEX);
        unchanged("SIZE sheet there", 1, (x, a) -> x.sheet(0, 0, -1), SIZE);
        unchanged("SIZE sheet lost", 1, (x, a) -> x.sheet(1, 0, -1), SIZE);
        unchanged("NULL get", 1, (x, a) -> x.get(1, 0, 0) - Integer.MIN_VALUE - 10 - x.count(8), NULL);
        unchanged("CAST get", 1, (x, a) -> x.get(0, 1, 9) - Integer.MIN_VALUE - 10 - x.count(8), CAST);
        unchanged("INDEX get", 1, (x, a) -> x.get(0, 0, 3) - Integer.MIN_VALUE - 10 - x.count(8), INDEX);
    }

    private void unchanged(String what, int state, Call call, int answer) {
        List<Long> before = all(town(state));
        TownBagpipes x = town(state);
        s.due(what, call.on(x, new int[0]), answer);
        List<Long> behind = all(x);
        s.due("count(8) behind " + what, behind.get(0), answer <= NULL ? -10 - answer : before.get(0));
        s.due("nothing else changes by " + what, behind.subList(1, behind.size()).equals(before.subList(1, before.size())) ? 1 : 0, 1);
    }

    /** Whatever numbers are given, a call ends with an answer: the machine itself never throws. */
    private void anyNumbersAtAll() {
        s.says("Refusals, the first that fits");
        java.util.Random by = new java.util.Random(38);
        int[] odd = {Integer.MIN_VALUE, Integer.MIN_VALUE + 1, -100, -2, -1, 0, 1, 2, 3, 4, 7, 8, 9, 39, 40, 41, 55, 59, 60, 61, 99, 100, 255, 256, Integer.MAX_VALUE - 1, Integer.MAX_VALUE};
        for (int state = 0; state < 4; state++) {
            TownBagpipes x = town(state);
            int calls = 0;
            for (int i = 0; i < 300; i++) {
                Face face = FACES[by.nextInt(FACES.length)];
                int[] a = new int[face.limits.length];
                for (int k = 0; k < a.length; k++) {
                    a[k] = odd[by.nextInt(odd.length)];
                }
                face.call.on(x, a);
                calls++;
            }
            s.due("calls answered in town " + state, calls, 300);
        }
    }
}
