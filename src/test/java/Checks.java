import java.util.ArrayList;
import java.util.List;

/** What the tests share: a count of wrong answers, and towns from plain texts. */
final class Checks {
    private int wrong;
    private int done;

    void due(String call, long got, long want) {
        done++;
        if (got != want) {
            wrong++;
            System.out.println(call + " answered " + got + ", due is " + want);
        }
    }

    void fail(String what) {
        done++;
        wrong++;
        System.out.println(what);
    }

    int wrong() {
        return wrong;
    }

    void end() {
        System.out.println(wrong == 0 ? done + " answers are as due" : wrong + " answers are not as due");
        if (wrong != 0 || done == 0) {
            System.exit(1);
        }
    }

    static TownBagpipes town(String houses, String elbows) {
        TownBagpipes x = new TownBagpipes();
        typeAll(x, 0, houses);
        typeAll(x, 1, elbows);
        return x;
    }

    static void typeAll(TownBagpipes x, int text, String bytes) {
        for (char b : bytes.toCharArray()) {
            x.type(text, b);
        }
    }

    /** The digest, from the answers of the other calls. */
    static long digestByCalls(TownBagpipes x) {
        List<Long> all = new ArrayList<>();
        for (int what = 0; what <= 7; what++) all.add((long) x.count(what));
        for (int text = 0; text <= 1; text++) all.add((long) x.fault(text));
        for (int hour = 0; hour < 40; hour++) {
            all.add((long) x.elbows(hour));
            for (int what = 0; what <= 3; what++) all.add((long) x.bag(hour, what));
        }
        for (int h = 0; h < x.count(0); h++) {
            for (int what = 0; what <= 6; what++) all.add((long) x.house(h, what));
            for (int hour : new int[] {0, 7, 20, 39}) {
                for (int what = 0; what <= 2; what++) all.add((long) x.got(hour, h, what));
            }
            for (int what = 0; what <= 1; what++) all.add((long) x.held(h, what));
            for (int what = 0; what <= 1; what++) all.add((long) x.shut(h, what));
            all.add((long) x.was(h));
            all.add((long) x.ask(h));
            for (int what = 0; what <= 1; what++) all.add(x.moth(5, h, what));
        }
        all.add((long) x.first());
        all.add((long) x.quiet());
        all.add((long) x.well());
        for (int what = 0; what <= 1; what++) all.add((long) x.elbow(what));
        all.add((long) x.least());
        for (int what = 0; what <= 1; what++) all.add((long) x.patch(what));
        all.add((long) x.never());
        for (int what = 0; what <= 2; what++) all.add((long) x.starts(what));
        for (int what = 0; what <= 1; what++) all.add((long) x.year(7, 25, what));
        long h = 17;
        for (long one : all) h = 31 * h + one;
        return h;
    }
}
