import java.util.Random;

/** Runs of calls by chance, right and wrong ones, each compared with the plain model's answer. */
public final class RandomRunsTest {
    private static final int RUNS = 1500;
    private static final int CALLS = 190;
    private static final Checks C = new Checks();

    private final Random by;
    private final int run;
    private final TownBagpipes x = new TownBagpipes();
    private final TownModel m = new TownModel();

    private RandomRunsTest(int run) {
        this.run = run;
        this.by = new Random(run);
    }

    public static void main(String[] args) {
        for (int run = 1; run <= RUNS && C.wrong() < 20; run++) {
            new RandomRunsTest(run).go();
        }
        C.end();
    }

    private void go() {
        tellTown();
        for (int i = 0; i < CALLS; i++) {
            oneCall(by.nextInt(38));
        }
        if (run % 3 == 0) due("digest()", x.digest(), m.digest());
    }

    private void due(String call, long got, long want) {
        C.due("run " + run + ": " + call, got, want);
    }

    /** A number that may be, mostly; else one beside those, or far off. */
    private int num(int least, int most) {
        switch (by.nextInt(40)) {
            case 0:
                return least - 1;
            case 1:
                return most + 1;
            case 2:
                return by.nextInt();
            case 3:
                return by.nextBoolean() ? Integer.MIN_VALUE : Integer.MAX_VALUE;
            default:
                return least + by.nextInt(most - least + 1);
        }
    }

    private int houseNumber() {
        return num(0, Math.max(0, m.plan().houses.size() - 1));
    }

    private void tellTown() {
        int houses = by.nextInt(9);
        StringBuilder t = new StringBuilder();
        for (int h = 0; h < houses; h++) {
            if (h > 0) t.append(';');
            t.append(h == 0 || by.nextInt(3) == 0 ? '.' : (char) ('a' + by.nextInt(h)));
            t.append((char) ('a' + by.nextInt(7))).append((char) ('1' + by.nextInt(9)));
            for (int i = by.nextInt(3); i >= 0; i--) t.append("swr".charAt(by.nextInt(3)));
        }
        if (by.nextInt(12) == 0) t.append(";.a1s;");
        for (char b : t.toString().toCharArray()) typed(0, by.nextInt(300) == 0 ? by.nextInt(256) : b);
        int most = by.nextInt(4) == 0 ? 10 : 4;
        for (int i = by.nextInt(41); i > 0; i--) typed(1, by.nextInt(400) == 0 ? by.nextInt(256) : '0' + by.nextInt(most));
        due("fault(0)", x.fault(0), m.fault(0));
        due("fault(1)", x.fault(1), m.fault(1));
    }

    private void typed(int text, int b) {
        due("type(" + text + ", " + b + ")", x.type(text, b), m.type(text, b));
    }

    private void oneCall(int call) {
        if (call < 12) {
            tell(call);
        } else if (call < 18) {
            hours(call);
        } else if (call < 30) {
            plans(call);
        } else {
            sheets(call);
        }
    }

    private void tell(int call) {
        int a;
        int b;
        int c;
        switch (call) {
            case 0:
                typed(num(0, 1), by.nextInt(4) == 0 ? num(0, 255) : ".abcg19swr;;0".charAt(by.nextInt(13)));
                break;
            case 1:
                a = by.nextInt(12) == 0 ? num(0, 1) : 2;
                due("wipe(" + a + ")", x.wipe(a), m.wipe(a));
                if (a == 0 || a == 1) tellTown();
                break;
            case 2:
                a = num(0, 1);
                due("undo(" + a + ")", x.undo(a), m.undo(a));
                break;
            case 3:
                a = num(0, 1);
                due("fault(" + a + ")", x.fault(a), m.fault(a));
                break;
            case 4:
                a = houseNumber();
                b = num(0, 6);
                due("house(" + a + ", " + b + ")", x.house(a, b), m.house(a, b));
                break;
            case 5:
                a = num(0, 39);
                due("elbows(" + a + ")", x.elbows(a), m.elbows(a));
                break;
            case 6:
                a = num(0, 2);
                b = a == 0 ? num(0, 60) : a == 1 ? num(1, 99) : num(1, 9);
                due("set(" + a + ", " + b + ")", x.set(a, b), m.set(a, b));
                break;
            case 7:
                a = num(0, 39);
                b = num(1, 9);
                c = num(0, 39);
                due("leak(" + a + ", " + b + ", " + c + ")", x.leak(a, b, c), m.leak(a, b, c));
                break;
            case 8:
                a = num(0, 39);
                b = num(0, 7);
                due("pinch(" + a + ", " + b + ")", x.pinch(a, b), m.pinch(a, b));
                break;
            case 9:
                a = num(0, 1);
                due("back(" + a + ")", x.back(a), m.back(a));
                break;
            case 10:
                a = num(0, 3);
                due("read(" + a + ")", x.read(a), m.read(a));
                break;
            default:
                seen();
                break;
        }
    }

    /** Mostly what did come out, so that answers are not all empty. */
    private void seen() {
        int a = num(0, 39);
        int b = num(0, 7);
        int c = m.noHouse(b) || TownModel.noHour(a) || by.nextInt(4) == 0 ? num(0, 4) : m.got(a, b, 0);
        due("seen(" + a + ", " + b + ", " + c + ")", x.seen(a, b, c), m.seen(a, b, c));
    }

    private void hours(int call) {
        int a = num(0, 39);
        int b;
        int c;
        switch (call) {
            case 12:
                b = num(0, 3);
                due("bag(" + a + ", " + b + ")", x.bag(a, b), m.bag(a, b));
                break;
            case 13:
                b = houseNumber();
                c = num(0, 2);
                due("got(" + a + ", " + b + ", " + c + ")", x.got(a, b, c), m.got(a, b, c));
                break;
            case 14:
                b = houseNumber();
                c = num(0, 1);
                due("held(" + b + ", " + c + ")", x.held(b, c), m.held(b, c));
                break;
            case 15:
                due("first()", x.first(), m.first());
                break;
            case 16:
                due("quiet()", x.quiet(), m.quiet());
                break;
            default:
                due("well()", x.well(), m.well());
                break;
        }
    }

    private void plans(int call) {
        int house = houseNumber();
        int what = num(0, 1);
        int c;
        switch (call) {
            case 18:
                due("elbow(" + what + ")", x.elbow(what), m.elbow(what));
                break;
            case 19:
                due("shut(" + house + ", " + what + ")", x.shut(house, what), m.shut(house, what));
                break;
            case 20:
                due("least()", x.least(), m.least());
                break;
            case 21:
                due("patch(" + what + ")", x.patch(what), m.patch(what));
                break;
            case 22:
                if (by.nextInt(3) == 0) due("forget()", x.forget(), m.forget());
                break;
            case 23:
                due("never()", x.never(), m.never());
                break;
            case 24:
                due("was(" + house + ")", x.was(house), m.was(house));
                break;
            case 25:
                c = num(0, 2);
                due("starts(" + c + ")", x.starts(c), m.starts(c));
                break;
            case 26:
                due("ask(" + house + ")", x.ask(house), m.ask(house));
                break;
            case 27:
                c = num(0, 16);
                due("moth(" + c + ", " + house + ", " + what + ")", x.moth(c, house, what), m.moth(c, house, what));
                break;
            case 28:
                int seed = by.nextInt();
                c = num(0, 40);
                due("year(" + seed + ", " + c + ", " + what + ")", x.year(seed, c, what), m.year(seed, c, what));
                break;
            default:
                c = num(0, 8);
                due("count(" + c + ")", x.count(c), m.count(c));
                break;
        }
    }

    private void sheets(int call) {
        int s = num(0, 3);
        int form = num(0, 2);
        int i = num(0, by.nextBoolean() ? 5 : 59);
        int t = by.nextInt(3) == 0 ? s : num(0, 3);
        int j = num(0, 9);
        int n = num(0, by.nextBoolean() ? 9 : 60);
        switch (call) {
            case 30:
            case 31:
                due("sheet(" + s + ", " + form + ", " + n + ")", x.sheet(s, form, n), m.sheet(s, form, n));
                break;
            case 32:
                due("lose(" + s + ")", x.lose(s), m.lose(s));
                break;
            case 33:
            case 34:
                for (int k = 0; k < 4; k++) {
                    int v = by.nextInt(3) == 0 ? by.nextInt() : by.nextInt(k % 2 == 0 ? 40 : 8);
                    due("put(" + s + ", " + form + ", " + (i + k) + ", " + v + ")", x.put(s, form, i + k, v), m.put(s, form, i + k, v));
                }
                break;
            case 35:
                due("get(" + s + ", " + form + ", " + i + ")", x.get(s, form, i), m.get(s, form, i));
                break;
            case 36:
                due("copy(" + s + ", " + i + ", " + t + ", " + j + ", " + n + ")", x.copy(s, i, t, j, n), m.copy(s, i, t, j, n));
                break;
            default:
                int house = houseNumber();
                due("write(" + house + ", " + s + ")", x.write(house, s), m.write(house, s));
                break;
        }
        due("count(8)", x.count(8), m.count(8));
    }
}
