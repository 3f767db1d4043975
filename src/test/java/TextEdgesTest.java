import java.io.IOException;

/** The edges of houses and elbows as texts: the document's terms and promises 1 to 7, sentence by sentence. */
public final class TextEdgesTest {
    private static final int NONE = Sentences.NONE, BAD = Sentences.BAD, NOT = Sentences.NOT, FULL = Sentences.FULL;
    private static final String EIGHT = ".a1s;.a1s;.a1s;.a1s;.a1s;.a1s;.a1s;.a1s";
    private static final String WIDEST_TEXT = ".a1swr;ab2wrs;bc3rsw;cd4swr;de5wrs;ef6rsw;fg7swr;ga8wrs";

    private final Sentences s;

    private TextEdgesTest(Sentences s) {
        this.s = s;
    }

    public static void main(String[] args) throws IOException {
        Sentences s = new Sentences();
        TextEdgesTest t = new TextEdgesTest(s);
        t.upTo55Bytes();
        t.eightAtMost();
        t.eachByteOfAHouse();
        t.onWhosePipe();
        t.between();
        t.lettersHourByHourAndRound();
        t.upTo40Figures();
        t.threeInLaterOnes();
        t.firstByteWithWhichItCannotGoOn();
        t.anEmptyOneIsWell();
        t.notEnded();
        t.fourthLetter();
        t.ninth();
        t.asIfItWasEmpty();
        t.newObject();
        t.type();
        t.wipe();
        t.undo();
        t.fault();
        t.house();
        t.elbows();
        s.end();
    }

    private static TownBagpipes houses(String text) {
        return Sentences.town(text, "");
    }

    private static TownBagpipes pumped(String text) {
        return Sentences.town("", text);
    }

    private void upTo55Bytes() {
        s.says("HOUSES are a text of up to 55 bytes (text 0)");
        TownBagpipes x = houses(WIDEST_TEXT);
        s.due("its bytes", x.count(2), 55);
        s.due("its fault", x.fault(0), NONE);
        s.due("its houses", x.count(0), 8);
        s.due("a 56th", x.type(0, 's'), FULL);
        s.due("the bytes that stay", x.count(2), 55);
        s.due("the houses that stay", x.count(0), 8);
        s.due("the last letter", x.house(7, 6), 0);
        s.due("without the last", x.undo(0), 54);
        s.due("the 55th anew", x.type(0, 'r'), 55);
        s.due("the last letter anew", x.house(7, 6), 2);
    }

    private void eightAtMost() {
        s.says("8 at most (0 on)");
        TownBagpipes x = houses(EIGHT);
        s.due("count(0)", x.count(0), 8);
        s.due("house(0, 2)", x.house(0, 2), 1);
        s.due("house(7, 2)", x.house(7, 2), 1);
        s.due("house(8, 2)", x.house(8, 2), BAD);
        s.due("what the last gets", x.got(0, 7, 0), 1);
        s.due("the last in the last hour", x.got(39, 7, 0), 1);
    }

    /** Every byte at every place of a first, a second and an eighth house. */
    private void eachByteOfAHouse() {
        for (int house : new int[] {0, 1, 7}) {
            String ahead = ".a1s;".repeat(house);
            String upToIt = "abcdefgh".substring(0, house);
            s.says("or a letter a to h, on whose pipe it is, of a HOUSE that was told ahead of it");
            eachByte(ahead, "." + upToIt, "", false);
            s.says("a letter a to g, its NOTE (0 to 6)");
            eachByte(ahead + ".", "abcdefg", "", false);
            s.says("a figure 1 to 9, how WIDE its pipe is");
            eachByte(ahead + ".a", "123456789", "", false);
            s.says("and 1 to 3 letters s (sleeps), w (works) or r (runs), what is DONE in it");
            eachByte(ahead + ".a1", "", "swr", false);
            eachByte(ahead + ".a1s", ";", "swr", house == 7);
            eachByte(ahead + ".a1sw", ";", "swr", house == 7);
            eachByte(ahead + ".a1swr", ";", "", house == 7);
        }
    }

    /** goesOn: bytes behind which more must come; ends: bytes with which the text may end. */
    private void eachByte(String ahead, String goesOn, String ends, boolean last) {
        int place = ahead.length();
        for (int b = 0; b <= 255; b++) {
            TownBagpipes x = houses(ahead + (char) b);
            int want = ends.indexOf(b) >= 0 ? NONE : goesOn.indexOf(b) >= 0 ? place + 1 : place;
            s.due("byte " + b + " behind " + ahead, x.fault(0), want);
        }
        if (last) {
            s.due("a ninth behind " + ahead, houses(ahead + ";.").fault(0), place + 1);
        }
    }

    private void onWhosePipe() {
        s.says("of a HOUSE that was told ahead of it");
        for (int house = 0; house < 8; house++) {
            for (int on = 0; on < 9; on++) {
                String ahead = ".a1s;".repeat(house);
                TownBagpipes x = houses(ahead + (char) ('a' + on) + "a1s");
                s.due("house " + house + " on " + on, x.fault(0), on < house ? NONE : ahead.length());
                s.due("on whose pipe", x.house(house, 0), on < house ? on : BAD);
            }
        }
    }

    private void between() {
        s.says("with ; between them");
        s.due("one ahead of all", houses(";.a1s").fault(0), 0);
        s.due("one alone", houses(";").fault(0), 0);
        s.due("one behind all", houses(".a1s;").fault(0), 5);
        s.due("two between", houses(".a1s;;.a1s").fault(0), 5);
        s.due("none between", houses(".a1s.a1s").fault(0), 4);
        s.due("a comma", houses(".a1s,.a1s").fault(0), 4);
        s.due("one", houses(".a1s;.a1s").count(0), 2);
    }

    private void lettersHourByHourAndRound() {
        s.says("what is DONE in it, hour by hour, and round");
        TownBagpipes x = houses(".a9r;.b9sr;.c9swr");
        for (int hour = 0; hour < 40; hour++) {
            s.due("one letter, hour " + hour, x.got(hour, 0, 2), 2);
            s.due("two letters, hour " + hour, x.got(hour, 1, 2), hour % 2 == 0 ? 0 : 2);
            s.due("three letters, hour " + hour, x.got(hour, 2, 2), hour % 3);
        }
    }

    private void upTo40Figures() {
        s.says("ELBOWS are a text of up to 40 figures 0 to 9 (text 1)");
        for (String ahead : new String[] {"", "5", "5".repeat(39)}) {
            for (int b = 0; b <= 255; b++) {
                TownBagpipes x = pumped(ahead + (char) b);
                boolean figure = b >= '0' && b <= '9';
                s.due("byte " + b + " behind " + ahead.length(), x.fault(1), figure ? NONE : ahead.length());
                s.due("told", x.count(1), figure ? ahead.length() + 1 : 0);
                s.due("the hour's", x.elbows(ahead.length()), figure ? b - '0' : 3);
            }
        }
        TownBagpipes y = pumped("5".repeat(40));
        s.due("a 41st", y.type(1, '5'), FULL);
        s.due("a wrong 41st", y.type(1, 'x'), FULL);
        s.due("forty stay", y.count(1), 40);
        s.due("no fault comes of it", y.fault(1), NONE);
    }

    private void threeInLaterOnes() {
        s.says("how many there are, one for each HOUR (0 on); 3 in later ones");
        s.due("none told, hour 0", pumped("").elbows(0), 3);
        s.due("none told, hour 39", pumped("").elbows(39), 3);
        s.due("one told, hour 0", pumped("0").elbows(0), 0);
        s.due("one told, hour 1", pumped("0").elbows(1), 3);
        s.due("39 told, hour 38", pumped("9".repeat(39)).elbows(38), 9);
        s.due("39 told, hour 39", pumped("9".repeat(39)).elbows(39), 3);
        s.due("40 told, hour 39", pumped("9".repeat(40)).elbows(39), 9);
        s.due("what they give in the last hour", Sentences.town("", Sentences.NOBODY.substring(1)).bag(39, 0), 30 + 12);
    }

    private void firstByteWithWhichItCannotGoOn() {
        s.says("The FAULT of a text is the place of the first byte with which it cannot go on");
        s.due("the first of two", houses("x.y").fault(0), 0);
        TownBagpipes x = houses(".a1sx");
        s.due("at its end", x.fault(0), 4);
        Sentences.typeAll(x, 0, ";.a1s;x");
        s.due("it stays, whatever comes behind", x.fault(0), 4);
        for (int i = 0; i < 7; i++) {
            x.undo(0);
        }
        s.due("as long as it is there", x.fault(0), 4);
        x.undo(0);
        s.due("and is gone with it", x.fault(0), NONE);
        s.due("the first of two figures", pumped("1a2b").fault(1), 1);
        s.due("at the last place of a full text", houses(WIDEST_TEXT.substring(0, 54) + "x").fault(0), 54);
        s.due("at the last figure", pumped("1".repeat(39) + "x").fault(1), 39);
        s.due("one text's is not the other's", houses("x").fault(1), NONE);
        s.due("nor the other way", pumped("x").fault(0), NONE);
    }

    private void anEmptyOneIsWell() {
        s.says("(an empty one is well; of one that is not ended, its end)");
        TownBagpipes x = new TownBagpipes();
        s.due("houses", x.fault(0), NONE);
        s.due("elbows", x.fault(1), NONE);
        Sentences.typeAll(x, 0, "x");
        Sentences.typeAll(x, 1, "x");
        x.wipe(0);
        x.undo(1);
        s.due("houses wiped", x.fault(0), NONE);
        s.due("elbows undone", x.fault(1), NONE);
    }

    private void notEnded() {
        s.says("of one that is not ended, its end");
        String text = ".a1s;ab2w";
        TownBagpipes x = new TownBagpipes();
        for (int i = 0; i < text.length(); i++) {
            x.type(0, text.charAt(i));
            boolean ended = i == 3 || i == 8;
            s.due(text.substring(0, i + 1), x.fault(0), ended ? NONE : i + 1);
            s.due("houses of " + text.substring(0, i + 1), x.count(0), i == 3 ? 1 : i == 8 ? 2 : 0);
        }
        String full = ".a1s;.a1swr;.a1swr;.a1swr;.a1swr;.a1swr;.a1swr;.a1sw";
        s.due("52 bytes are ended", houses(full).fault(0), NONE);
        s.due("its end behind the eighth", houses(full + ";").fault(0), 53);
        s.due("elbows are always ended", pumped("1").fault(1), NONE);
    }

    private void fourthLetter() {
        s.says("of a fourth letter");
        s.due("three", houses(".a1sss").fault(0), NONE);
        s.due("four", houses(".a1ssss").fault(0), 6);
        s.due("four of the second", houses(".a1s;.a1rrrr").fault(0), 11);
        s.due("four, and another", houses(".a1ssss;.a1s").fault(0), 6);
    }

    private void ninth() {
        s.says("of the first byte of a ninth");
        s.due("eight", houses(EIGHT).fault(0), NONE);
        s.due("not ended: its end", houses(EIGHT + ";").fault(0), 40);
        s.due("a ninth that would be well", houses(EIGHT + ";.a1s").fault(0), 40);
        s.due("a ninth on the eighth's pipe", houses(EIGHT + ";ha1s").fault(0), 40);
        s.due("a ninth that is wrong", houses(EIGHT + ";x").fault(0), 40);
        s.due("no houses are left", houses(EIGHT + ";.").count(0), 0);
    }

    private void asIfItWasEmpty() {
        s.says("With a FAULT a text is as if it was empty.");
        TownBagpipes x = Sentences.town(".a1w;.b1wx", "99x");
        x.sheet(0, 0, 3);
        s.due("count(0)", x.count(0), 0);
        s.due("count(1)", x.count(1), 0);
        s.due("count(6)", x.count(6), 0);
        s.due("house", x.house(0, 0), BAD);
        s.due("got", x.got(0, 0, 1), BAD);
        s.due("held", x.held(0, 1), BAD);
        s.due("shut", x.shut(0, 0), BAD);
        s.due("was", x.was(0), BAD);
        s.due("ask", x.ask(0), BAD);
        s.due("moth", x.moth(0, 0, 0), Long.MIN_VALUE + 2);
        s.due("write", x.write(0, 0), BAD);
        s.due("elbows", x.elbows(0), 3);
        s.due("the bag", x.bag(0, 0), 42);
        s.due("the chord", x.bag(0, 2), 0);
        s.due("who is short", x.bag(0, 3), 0);
        s.due("first", x.first(), NONE);
        s.due("well", x.well(), 40);
        s.due("a pinch may be", x.pinch(0, 7), 1);
        s.due("seen may be", x.seen(0, 7, 0), 1);
        s.due("but never comes out", x.never(), 0);
        s.due("its bytes are counted", x.count(2), 10);
        x.undo(0);
        x.undo(1);
        s.due("without the fault", x.count(0), 2);
        s.due("its elbows", x.elbows(1), 9);
    }

    private void newObject() {
        s.says("No HOUSES, no LEAKS; all SHEETS are LOST.");
        TownBagpipes x = new TownBagpipes();
        s.due("houses", x.count(0), 0);
        s.due("a house", x.house(0, 0), BAD);
        s.due("leaks", x.count(4), 0);
        s.due("a leak undone", x.back(0), NOT);
        for (int sheet = 0; sheet < 4; sheet++) {
            s.due("read " + sheet, x.read(sheet), Sentences.NULL);
        }
        s.due("one object is not another", pumped("1").count(3) + new TownBagpipes().count(3), 1);
    }

    private void type() {
        s.says("A byte (0 to 255) comes behind a text: how many. BAD; FULL.");
        TownBagpipes x = new TownBagpipes();
        s.due("the least byte", x.type(0, 0), 1);
        s.due("the greatest byte", x.type(0, 255), 2);
        s.due("below", x.type(0, -1), BAD);
        s.due("above", x.type(0, 256), BAD);
        s.due("no such text below", x.type(-1, 0), BAD);
        s.due("no such text above", x.type(2, 0), BAD);
        s.due("none came", x.count(2), 2);
        s.due("the other text", x.type(1, 255), 1);
    }

    private void wipe() {
        s.says("A text is empty: how many bytes it had. BAD.");
        TownBagpipes x = Sentences.town(WIDEST_TEXT, "1".repeat(40));
        s.due("a full one", x.wipe(0), 55);
        s.due("an empty one", x.wipe(0), 0);
        s.due("a full one of elbows", x.wipe(1), 40);
        s.due("it may be typed again", x.type(0, '.'), 1);
        s.due("so may elbows", x.type(1, '7'), 1);
        s.due("the first of them", x.elbows(0), 7);
        s.due("no such text", x.wipe(2), BAD);
        s.due("nor below", x.wipe(-1), BAD);
    }

    private void undo() {
        s.says("The last byte of a text is undone: how many are left. BAD; NOT: it is empty.");
        TownBagpipes x = Sentences.town(".", "");
        s.due("the only one", x.undo(0), 0);
        s.due("none", x.undo(0), NOT);
        s.due("none of elbows", x.undo(1), NOT);
        s.due("BAD ahead of NOT", x.undo(2), BAD);
        s.due("BAD below", x.undo(-1), BAD);
        s.due("NOT is no finding", x.count(8), 0);
        s.due("still empty", x.count(2), 0);
        TownBagpipes y = houses(".a9r;.b9r");
        s.due("what two leave", y.bag(0, 0), 34);
        for (int i = 0; i < 5; i++) {
            y.undo(0);
        }
        s.due("what one leaves", y.bag(0, 0), 38);
        s.due("the note that is no longer heard", y.bag(0, 2), 1);
    }

    private void fault() {
        s.says("The FAULT of a text; NONE. BAD.");
        TownBagpipes x = houses(".");
        s.due("a fault", x.fault(0), 1);
        s.due("none", x.fault(1), NONE);
        s.due("above", x.fault(2), BAD);
        s.due("below", x.fault(-1), BAD);
    }

    private void house() {
        s.says("these (4 to 6: 0 s, 1 w, 2 r; NONE: not so many) of a HOUSE. BAD.");
        String[] letters = {"s", "w", "r", "sw", "rs", "swr", "rrr"};
        for (String does : letters) {
            TownBagpipes x = houses(".g9" + does);
            s.due("on THE BAG", x.house(0, 0), NONE);
            s.due("the highest note", x.house(0, 1), 6);
            s.due("the widest", x.house(0, 2), 9);
            s.due("letters of " + does, x.house(0, 3), does.length());
            for (int i = 0; i < 3; i++) {
                s.due("letter " + i + " of " + does, x.house(0, 4 + i), i < does.length() ? "swr".indexOf(does.charAt(i)) : NONE);
            }
            s.due("no such number", x.house(0, 7), BAD);
        }
        TownBagpipes y = houses(".a1swr");
        y.undo(0);
        s.due("a letter undone", y.house(0, 6), NONE);
        s.due("no house behind the last", y.house(1, 0), BAD);
        s.due("none in a new object", new TownBagpipes().house(0, 0), BAD);
    }

    private void elbows() {
        s.says("How many ELBOWS there are in an HOUR. BAD.");
        TownBagpipes x = pumped("0" + "1".repeat(38) + "9");
        s.due("hour 0", x.elbows(0), 0);
        s.due("hour 39", x.elbows(39), 9);
        s.due("hour 40", x.elbows(40), BAD);
        s.due("hour -1", x.elbows(-1), BAD);
    }
}
