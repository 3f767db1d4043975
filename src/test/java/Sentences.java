import java.io.IOException;
import java.nio.file.Files;
import java.nio.file.Path;

/** Tests that stand each for one sentence of the document; a wrong answer is printed with its sentence. */
final class Sentences {
    static final int NONE = -1, BAD = -2, NOT = -3, FULL = -4;
    static final int NULL = -11, INDEX = -12, CAST = -13, STORE = -14, SIZE = -15;
    static final int LEAST_INT = Integer.MIN_VALUE;
    static final String NOBODY = "0".repeat(40);
    private static final Path DOCUMENT = Path.of("../shared/DOC.md");

    private final Checks checks = new Checks();
    private final String document;
    private String now = "";

    Sentences() throws IOException {
        document = Files.exists(DOCUMENT) ? plain(Files.readString(DOCUMENT)) : null;
    }

    private static String plain(String text) {
        return text.replaceAll("\\s+", " ");
    }

    /** Names the words for which the next answers are due; they must stand in the document as they are quoted. */
    void says(String words) {
        now = words;
        if (document != null && !document.contains(plain(words))) {
            checks.fail("the document does not say: " + words);
        }
    }

    void due(String call, long got, long want) {
        checks.due("\"" + now + "\": " + call, got, want);
    }

    void end() {
        checks.end();
    }

    static TownBagpipes town(String houses, String elbows) {
        return Checks.town(houses, elbows);
    }

    static void typeAll(TownBagpipes x, int text, String bytes) {
        Checks.typeAll(x, text, bytes);
    }

    static void items(TownBagpipes x, int s, int form, int... values) {
        x.sheet(s, form, values.length);
        for (int i = 0; i < values.length; i++) {
            x.put(s, form, i, values[i]);
        }
    }
}
