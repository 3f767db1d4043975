/** What the tests share: a count of wrong answers, and towns from plain texts. */
final class Checks {
    private int wrong;
    private int done;

    void due(String call, long got, long want) {
        done++;
        if (got != want) {
            wrong++;
            System.out.println(call + " answered " + got + ", due is " + want);
        }
    }

    void fail(String what) {
        done++;
        wrong++;
        System.out.println(what);
    }

    int wrong() {
        return wrong;
    }

    void end() {
        System.out.println(wrong == 0 ? done + " answers are as due" : wrong + " answers are not as due");
        if (wrong != 0 || done == 0) {
            System.exit(1);
        }
    }

    static TownBagpipes town(String houses, String elbows) {
        TownBagpipes x = new TownBagpipes();
        typeAll(x, 0, houses);
        typeAll(x, 1, elbows);
        return x;
    }

    static void typeAll(TownBagpipes x, int text, String bytes) {
        for (char b : bytes.toCharArray()) {
            x.type(text, b);
        }
    }
}
