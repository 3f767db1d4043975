/** A town that breathes from one bag: who gets how much air, hour by hour, and what follows from it. */
public final class TownBagpipes {
    public static final int NONE = -1, BAD = -2, NOT = -3, FULL = -4;

    private static final int HOURS = 40;
    private static final int HOUSES = 8;
    private static final int LETTERS = 3;
    private static final int NOTES = 7;
    /** A house is whole behind its first letter, which is at this place of it. */
    private static final int LAST_NEEDED = 3;
    private static final int WIDEST = 9;
    private static final int STREET_BYTES = 55;
    private static final int LATER_ELBOWS = 3;
    private static final int MOST_START = 60;
    private static final int MOST_ROOM = 99;
    private static final int MOST_LIFT = 9;
    private static final int MOST_LEAK = 9;
    private static final int LEAKS = 6;
    private static final int PINCHES = 6;
    private static final int SIGHTS = 8;
    private static final int MOST_GOT = 4;
    private static final int SIXTEENTHS = 16;
    private static final int SHEETS = 4;
    private static final int ITEMS = 60;
    private static final int BYTES = 0, SHORTS = 1, INTS = 2;
    private static final int NULL = 1, INDEX = 2, CAST = 3, STORE = 4, SIZE = 5;
    private static final int EVERY_BIT = -1;
    /** A plan is told as one number, its hours above and its choice below, so that the least number is the best plan. */
    private static final int PLAN = 64;
    private static final int NO_PLAN = Integer.MAX_VALUE;
    private static final int[] DIGEST_HOURS = {0, 7, 20, 39};

    private final Text housesText = new Text(STREET_BYTES);
    private final Text elbowsText = new Text(HOURS);
    private final Town town = new Town();
    private final Course told = new Course();
    private final Course tried = new Course();
    private boolean toldStands;
    /** For each choice of leaks, as bits, who is ever short by it, as bits. */
    private final int[] shortByLeaks = new int[1 << LEAKS];
    private boolean shortByLeaksStands;
    private final int[] lots = new int[HOURS];
    private final int[] alike = new int[HOURS * (MOST_GOT + 1)];
    private final int[] seenHour = new int[SIGHTS];
    private final int[] seenHouse = new int[SIGHTS];
    private final int[] seenMuch = new int[SIGHTS];
    private int sights;
    private final Sheets sheets = new Sheets();
    private int finding;

    public TownBagpipes() {
    }

    // ---- houses, elbows, the bag, leaks, pinches

    public int type(int text, int b) {
        if (!within(text, 0, 1) || !within(b, 0, 255)) {
            return BAD;
        }
        Text it = textOf(text);
        if (it.isFull()) {
            return FULL;
        }
        it.add(b);
        readTexts();
        return it.size;
    }

    public int wipe(int text) {
        if (!within(text, 0, 1)) {
            return BAD;
        }
        Text it = textOf(text);
        int had = it.size;
        it.size = 0;
        readTexts();
        return had;
    }

    public int undo(int text) {
        if (!within(text, 0, 1)) {
            return BAD;
        }
        Text it = textOf(text);
        if (it.size == 0) {
            return NOT;
        }
        it.size--;
        readTexts();
        return it.size;
    }

    public int fault(int text) {
        return within(text, 0, 1) ? textOf(text).fault : BAD;
    }

    public int house(int house, int what) {
        if (!isHouse(house) || !within(what, 0, 6)) {
            return BAD;
        }
        switch (what) {
            case 0:
                return town.street.on[house];
            case 1:
                return town.street.note[house];
            case 2:
                return town.street.wide[house];
            case 3:
                return town.street.letters[house];
            default:
                return town.street.letter(house, what - 4);
        }
    }

    public int elbows(int hour) {
        return isHour(hour) ? town.elbows[hour] : BAD;
    }

    public int set(int what, int v) {
        int before;
        if (what == 0 && within(v, 0, MOST_START)) {
            before = town.start;
            town.start = v;
        } else if (what == 1 && within(v, 1, MOST_ROOM)) {
            before = town.room;
            town.room = v;
        } else if (what == 2 && within(v, 1, MOST_LIFT)) {
            before = town.lift;
            town.lift = v;
        } else {
            return BAD;
        }
        changed();
        return before;
    }

    public int leak(int hour, int much, int patched) {
        if (!isHour(hour) || !within(much, 1, MOST_LEAK) || !isHour(patched)) {
            return BAD;
        }
        if (town.leaks >= LEAKS) {
            return FULL;
        }
        town.addLeak(hour, much, patched);
        changed();
        return town.leaks;
    }

    public int pinch(int hour, int house) {
        if (!mayPinch(hour, house)) {
            return BAD;
        }
        if (town.pinches >= PINCHES) {
            return FULL;
        }
        town.addPinch(hour, house);
        changed();
        return town.pinches;
    }

    public int back(int what) {
        if (!within(what, 0, 1)) {
            return BAD;
        }
        int there = what == 0 ? town.leaks : town.pinches;
        if (there == 0) {
            return NOT;
        }
        if (what == 0) {
            town.leaks--;
        } else {
            town.pinches--;
        }
        changed();
        return there - 1;
    }

    public int read(int s) {
        if (!isSheet(s)) {
            return BAD;
        }
        if (sheets.isLost(s)) {
            return found(NULL);
        }
        // No sentence undoes the PINCHES that are there, so these come behind them.
        int before = town.pinches;
        int whole = sheets.size[s] / 2;
        for (int i = 0; i < whole && town.pinches < PINCHES; i++) {
            int hour = sheets.item(s, 2 * i);
            int house = sheets.item(s, 2 * i + 1);
            if (!mayPinch(hour, house)) {
                break;
            }
            town.addPinch(hour, house);
        }
        changed();
        return town.pinches - before;
    }

    // ---- hours

    public int bag(int hour, int what) {
        if (!isHour(hour) || !within(what, 0, 3)) {
            return BAD;
        }
        Course it = toldCourse();
        switch (what) {
            case 0:
                return it.air[hour];
            case 1:
                return it.lost[hour];
            case 2:
                return it.chord[hour];
            default:
                return it.shorts[hour];
        }
    }

    public int got(int hour, int house, int what) {
        if (!isHour(hour) || !isHouse(house) || !within(what, 0, 2)) {
            return BAD;
        }
        if (what == 0) {
            return toldCourse().gotBy(hour, house);
        }
        int done = town.street.doneIn[hour * HOUSES + house];
        return what == 1 ? needOf(done) : done;
    }

    public int held(int house, int what) {
        if (!isHouse(house) || !within(what, 0, 1)) {
            return BAD;
        }
        Course it = toldCourse();
        return what == 0 ? it.firstShort(1 << house) : it.shortHours(house);
    }

    public int first() {
        return toldCourse().firstShort(EVERY_BIT);
    }

    public int quiet() {
        Course it = toldCourse();
        for (int hour = 0; hour < HOURS; hour++) {
            if (it.air[hour] == 0) {
                return hour;
            }
        }
        return NONE;
    }

    public int well() {
        Course it = toldCourse();
        int many = 0;
        for (int hour = 0; hour < HOURS; hour++) {
            if (it.shorts[hour] == 0) {
                many++;
            }
        }
        return many;
    }

    // ---- plans

    public int elbow(int what) {
        return within(what, 0, 1) ? partOf(bestElbow(), what) : BAD;
    }

    public int shut(int house, int what) {
        return isHouse(house) && within(what, 0, 1) ? partOf(bestShut(house), what) : BAD;
    }

    public int least() {
        int kept = town.start;
        int answer = NONE;
        for (int start = 0; start <= MOST_START && answer == NONE; start++) {
            town.start = start;
            tried.follow(town);
            if (tried.firstShort(EVERY_BIT) == NONE) {
                answer = start;
            }
        }
        town.start = kept;
        return answer;
    }

    public int patch(int what) {
        return within(what, 0, 1) ? partOf(bestPatch(), what) : BAD;
    }

    // ---- seen, chance, years

    public int seen(int hour, int house, int much) {
        if (!isHour(hour) || !within(house, 0, HOUSES - 1) || !within(much, 0, MOST_GOT)) {
            return BAD;
        }
        if (sights >= SIGHTS) {
            return FULL;
        }
        seenHour[sights] = hour;
        seenHouse[sights] = house;
        seenMuch[sights] = much;
        sights++;
        return sights;
    }

    public int forget() {
        int had = sights;
        sights = 0;
        return had;
    }

    public int never() {
        int bits = 0;
        for (int i = 0; i < town.pinches; i++) {
            town.pinchesThere = EVERY_BIT ^ (1 << i);
            tried.follow(town);
            if (comesOut(tried)) {
                bits |= 1 << i;
            }
        }
        town.pinchesThere = EVERY_BIT;
        return bits;
    }

    public int was(int house) {
        if (!isHouse(house)) {
            return BAD;
        }
        int bits = 0;
        for (int wide = 1; wide <= WIDEST; wide++) {
            tryWide(house, wide);
            if (comesOut(tried)) {
                bits |= 1 << wide;
            }
        }
        return bits;
    }

    public int starts(int what) {
        return within(what, 0, 2) ? startsPart(possibleStarts(), what) : BAD;
    }

    public int ask(int house) {
        if (!isHouse(house)) {
            return BAD;
        }
        tallyWidths(house);
        int best = NO_PLAN;
        for (int hour = 0; hour < HOURS; hour++) {
            best = Math.min(best, greatestAlike(hour) * PLAN + hour);
        }
        return partOf(best, 0);
    }

    public long moth(int c, int house, int what) {
        if (!within(c, 0, SIXTEENTHS) || !isHouse(house) || !within(what, 0, 1)) {
            return Long.MIN_VALUE - BAD;
        }
        long above = chanceOfNeverShort(c, house);
        long below = 1L << 4 * town.leaks;
        // Below is a power of two, so halving alone brings the lowest terms, and 0 comes to 0 by 1.
        for (int i = 0; i < 4 * LEAKS && (above & 1) == 0 && below > 1; i++) {
            above >>= 1;
            below >>= 1;
        }
        return what == 0 ? above : below;
    }

    public int year(int seed, int n, int what) {
        if (!within(n, 0, HOURS) || !within(what, 0, 1)) {
            return BAD;
        }
        drawLots(seed, n);
        int[] kept = town.elbows;
        town.elbows = lots;
        tried.follow(town);
        town.elbows = kept;
        return what == 0 ? tried.shortsInAll() : tried.air[HOURS - 1];
    }

    // ---- sheets

    public int sheet(int s, int form, int n) {
        if (!isSheet(s) || !isForm(form) || n > ITEMS) {
            return BAD;
        }
        if (n < 0) {
            return found(SIZE);
        }
        sheets.renew(s, form, n);
        return n;
    }

    public int lose(int s) {
        if (!isSheet(s)) {
            return BAD;
        }
        if (sheets.isLost(s)) {
            return found(NULL);
        }
        int had = sheets.size[s];
        sheets.drop(s);
        return had;
    }

    public int put(int s, int form, int i, int v) {
        int refusal = refusalOfItem(s, form, i);
        if (refusal != 0) {
            return refusal;
        }
        sheets.store(s, i, v);
        return 1;
    }

    public int get(int s, int form, int i) {
        return refusalOfItem(s, form, i) == 0 ? sheets.item(s, i) : Integer.MIN_VALUE;
    }

    public int copy(int s, int i, int t, int j, int n) {
        if (!isSheet(s) || !isSheet(t)) {
            return BAD;
        }
        if (sheets.isLost(s) || sheets.isLost(t)) {
            return found(NULL);
        }
        if (sheets.form[s] != sheets.form[t]) {
            return found(STORE);
        }
        if (!sheets.has(s, i, n) || !sheets.has(t, j, n)) {
            return found(INDEX);
        }
        sheets.move(s, i, t, j, n);
        return 1;
    }

    public int write(int house, int s) {
        if (!isHouse(house) || !isSheet(s)) {
            return BAD;
        }
        if (sheets.isLost(s)) {
            return found(NULL);
        }
        Course it = toldCourse();
        int many = Math.min(sheets.size[s], HOURS);
        for (int hour = 0; hour < many; hour++) {
            sheets.store(s, hour, it.gotBy(hour, house));
        }
        return many;
    }

    public int count(int what) {
        switch (what) {
            case 0:
                return town.street.houses;
            case 1:
                return town.elbowsTold;
            case 2:
                return housesText.size;
            case 3:
                return elbowsText.size;
            case 4:
                return town.leaks;
            case 5:
                return town.pinches;
            case 6:
                return toldCourse().shortsInAll();
            case 7:
                return sights;
            case 8:
                return finding;
            default:
                return BAD;
        }
    }

    public long digest() {
        long h = 17;
        for (int what = 0; what <= 7; what++) {
            h = 31 * h + count(what);
        }
        h = 31 * h + fault(0);
        h = 31 * h + fault(1);
        for (int hour = 0; hour < HOURS; hour++) {
            h = digestHour(h, hour);
        }
        for (int house = 0; house < town.street.houses; house++) {
            h = digestHouse(h, house);
        }
        return digestTown(h);
    }

    private long digestHour(long before, int hour) {
        long h = 31 * before + elbows(hour);
        for (int what = 0; what <= 3; what++) {
            h = 31 * h + bag(hour, what);
        }
        return h;
    }

    private long digestHouse(long before, int house) {
        long h = before;
        for (int what = 0; what <= 6; what++) {
            h = 31 * h + house(house, what);
        }
        for (int hour : DIGEST_HOURS) {
            for (int what = 0; what <= 2; what++) {
                h = 31 * h + got(hour, house, what);
            }
        }
        h = 31 * h + held(house, 0);
        h = 31 * h + held(house, 1);
        h = digestPlan(h, bestShut(house));
        h = 31 * h + was(house);
        h = 31 * h + ask(house);
        h = 31 * h + moth(5, house, 0);
        return 31 * h + moth(5, house, 1);
    }

    private long digestTown(long before) {
        long h = 31 * before + first();
        h = 31 * h + quiet();
        h = 31 * h + well();
        h = digestPlan(h, bestElbow());
        h = 31 * h + least();
        h = digestPlan(h, bestPatch());
        h = 31 * h + never();
        long bits = possibleStarts();
        for (int what = 0; what <= 2; what++) {
            h = 31 * h + startsPart(bits, what);
        }
        h = 31 * h + year(7, 25, 0);
        return 31 * h + year(7, 25, 1);
    }

    private static long digestPlan(long before, int plan) {
        return 31 * (31 * before + partOf(plan, 0)) + partOf(plan, 1);
    }

    // ---- what may be asked

    private static boolean within(int v, int least, int most) {
        return v >= least && v <= most;
    }

    private static boolean isHour(int hour) {
        return within(hour, 0, HOURS - 1);
    }

    private static boolean isSheet(int s) {
        return within(s, 0, SHEETS - 1);
    }

    private static boolean isForm(int form) {
        return within(form, BYTES, INTS);
    }

    private static boolean mayPinch(int hour, int house) {
        return isHour(hour) && within(house, 0, HOUSES - 1);
    }

    private boolean isHouse(int house) {
        return within(house, 0, town.street.houses - 1);
    }

    private static int needOf(int done) {
        return done == 0 ? 1 : done == 1 ? 2 : 4;
    }

    private int found(int number) {
        finding = number;
        return -10 - number;
    }

    private int refusalOfItem(int s, int form, int i) {
        if (!isSheet(s) || !isForm(form)) {
            return BAD;
        }
        if (sheets.isLost(s)) {
            return found(NULL);
        }
        if (sheets.form[s] != form) {
            return found(CAST);
        }
        return sheets.has(s, i, 1) ? 0 : found(INDEX);
    }

    // ---- what was told, and what comes of it

    private Text textOf(int text) {
        return text == 0 ? housesText : elbowsText;
    }

    private void readTexts() {
        housesText.fault = town.street.readFrom(housesText);
        elbowsText.fault = town.readElbows(elbowsText);
        changed();
    }

    private void changed() {
        toldStands = false;
        shortByLeaksStands = false;
    }

    private Course toldCourse() {
        if (!toldStands) {
            told.follow(town);
            toldStands = true;
        }
        return told;
    }

    // ---- what would come, if one thing were otherwise

    private static int partOf(int plan, int what) {
        if (plan == NO_PLAN) {
            return NONE;
        }
        return what == 0 ? plan % PLAN : plan / PLAN;
    }

    private int bestElbow() {
        int best = NO_PLAN;
        for (int hour = 0; hour < HOURS; hour++) {
            town.elbows[hour]++;
            tried.follow(town);
            town.elbows[hour]--;
            best = Math.min(best, tried.shortsInAll() * PLAN + hour);
        }
        return best;
    }

    private int bestShut(int house) {
        int best = NO_PLAN;
        for (int other = 0; other < town.street.houses; other++) {
            if (other != house) {
                town.shutHouse = other;
                tried.follow(town);
                best = Math.min(best, tried.shortHours(house) * PLAN + other);
            }
        }
        town.shutHouse = NONE;
        return best;
    }

    private int bestPatch() {
        int best = NO_PLAN;
        for (int i = 0; i < town.leaks; i++) {
            town.leaksThere = EVERY_BIT ^ (1 << i);
            tried.follow(town);
            best = Math.min(best, tried.shortsInAll() * PLAN + i);
        }
        town.leaksThere = EVERY_BIT;
        return best;
    }

    private void tryWide(int house, int wide) {
        int kept = town.street.wide[house];
        town.street.wide[house] = wide;
        tried.follow(town);
        town.street.wide[house] = kept;
    }

    private boolean comesOut(Course course) {
        for (int i = 0; i < sights; i++) {
            if (!isHouse(seenHouse[i]) || course.gotBy(seenHour[i], seenHouse[i]) != seenMuch[i]) {
                return false;
            }
        }
        return true;
    }

    /** The starts by which all that was seen comes out, as bits: 61 of them fit into a long. */
    private long possibleStarts() {
        int kept = town.start;
        long bits = 0;
        for (int start = 0; start <= MOST_START; start++) {
            town.start = start;
            tried.follow(town);
            if (comesOut(tried)) {
                bits |= 1L << start;
            }
        }
        town.start = kept;
        return bits;
    }

    private static int startsPart(long bits, int what) {
        if (what == 0) {
            return Long.bitCount(bits);
        }
        if (bits == 0) {
            return NONE;
        }
        return what == 1 ? Long.numberOfTrailingZeros(bits) : 63 - Long.numberOfLeadingZeros(bits);
    }

    /** Tells for each hour by how many of the possible widths the house gets 0, 1 and so on. */
    private void tallyWidths(int house) {
        for (int i = 0; i < alike.length; i++) {
            alike[i] = 0;
        }
        for (int wide = 1; wide <= WIDEST; wide++) {
            tryWide(house, wide);
            if (comesOut(tried)) {
                tallyHours(house);
            }
        }
    }

    private void tallyHours(int house) {
        for (int hour = 0; hour < HOURS; hour++) {
            int much = tried.gotBy(hour, house);
            if (within(much, 0, MOST_GOT)) {
                alike[hour * (MOST_GOT + 1) + much]++;
            }
        }
    }

    private int greatestAlike(int hour) {
        int greatest = 0;
        for (int much = 0; much <= MOST_GOT; much++) {
            greatest = Math.max(greatest, alike[hour * (MOST_GOT + 1) + much]);
        }
        return greatest;
    }

    private void tryEachChoiceOfLeaks() {
        int choices = 1 << town.leaks;
        for (int choice = 0; choice < choices && choice < shortByLeaks.length; choice++) {
            town.leaksThere = choice;
            tried.follow(town);
            shortByLeaks[choice] = tried.everShort();
        }
        town.leaksThere = EVERY_BIT;
        shortByLeaksStands = true;
    }

    /** How many of 16 to the power of the number of leaks. */
    private long chanceOfNeverShort(int c, int house) {
        // One round of trials serves every house and every c, so it is kept until something changes.
        if (!shortByLeaksStands) {
            tryEachChoiceOfLeaks();
        }
        long sum = 0;
        int choices = 1 << town.leaks;
        for (int choice = 0; choice < choices && choice < shortByLeaks.length; choice++) {
            if ((shortByLeaks[choice] >> house & 1) == 0) {
                sum += weightOf(choice, c);
            }
        }
        return sum;
    }

    private long weightOf(int choice, int c) {
        long weight = 1;
        for (int i = 0; i < town.leaks; i++) {
            weight *= (choice >> i & 1) == 1 ? c : SIXTEENTHS - c;
        }
        return weight;
    }

    private void drawLots(int seed, int n) {
        int lot = seed;
        for (int hour = 0; hour < HOURS; hour++) {
            if (hour < n) {
                lot = 1103515245 * lot + 12345;
                lots[hour] = (lot >>> 16) % 10;
            } else {
                lots[hour] = LATER_ELBOWS;
            }
        }
    }

    /** Bytes as they were typed. */
    private static final class Text {
        private final int[] bytes = new int[STREET_BYTES];
        private final int most;
        private int size;
        private int fault = NONE;

        private Text(int most) {
            this.most = Math.min(most, STREET_BYTES);
        }

        private boolean isFull() {
            return size >= most;
        }

        private void add(int b) {
            if (!isFull()) {
                bytes[size] = b;
                size++;
            }
        }
    }

    /** The houses, as their text tells them. */
    private static final class Street {
        private final int[] on = new int[HOUSES];
        private final int[] note = new int[HOUSES];
        private final int[] wide = new int[HOUSES];
        private final int[] letters = new int[HOUSES];
        private final int[] done = new int[HOUSES * LETTERS];
        /** What is done in each hour, kept so that a trial need not go round the letters anew. */
        private final int[] doneIn = new int[HOURS * HOUSES];
        private int houses;

        /** Takes the houses from their text and tells its fault. */
        private int readFrom(Text text) {
            houses = 0;
            if (text.size == 0) {
                return NONE;
            }
            int house = 0;
            int place = 0;
            for (int i = 0; i < text.size; i++) {
                int b = text.bytes[i];
                if (b == ';' && place > LAST_NEEDED) {
                    house++;
                    place = 0;
                } else if (takes(house, place, b)) {
                    place++;
                } else {
                    return i;
                }
            }
            if (place <= LAST_NEEDED) {
                return text.size;
            }
            houses = Math.min(house + 1, HOUSES);
            goRound();
            return NONE;
        }

        private boolean takes(int house, int place, int b) {
            if (!within(house, 0, HOUSES - 1)) {
                return false;
            }
            switch (place) {
                case 0:
                    on[house] = b == '.' ? NONE : b - 'a';
                    return b == '.' || within(b - 'a', 0, house - 1);
                case 1:
                    note[house] = b - 'a';
                    return within(b - 'a', 0, NOTES - 1);
                case 2:
                    wide[house] = b - '0';
                    return within(b - '0', 1, WIDEST);
                default:
                    return takesLetter(house, place - LAST_NEEDED, b);
            }
        }

        private boolean takesLetter(int house, int nth, int b) {
            int what = b == 's' ? 0 : b == 'w' ? 1 : b == 'r' ? 2 : NONE;
            if (what == NONE || !within(nth, 0, LETTERS - 1)) {
                return false;
            }
            done[house * LETTERS + nth] = what;
            letters[house] = nth + 1;
            return true;
        }

        private void goRound() {
            for (int house = 0; house < houses; house++) {
                int round = Math.max(1, letters[house]);
                for (int hour = 0; hour < HOURS; hour++) {
                    doneIn[hour * HOUSES + house] = done[house * LETTERS + hour % round];
                }
            }
        }

        private int letter(int house, int nth) {
            return within(nth, 0, letters[house] - 1) ? done[house * LETTERS + nth] : NONE;
        }
    }

    /** All that the course of the hours follows from; a trial changes one thing in it and puts it back. */
    private static final class Town {
        private final Street street = new Street();
        private int[] elbows = new int[HOURS];
        private int elbowsTold;
        private int start = 30;
        private int room = 60;
        private int lift = 4;
        private final int[] leakFrom = new int[LEAKS];
        private final int[] leakMuch = new int[LEAKS];
        private final int[] leakPatched = new int[LEAKS];
        private int leaks;
        private int leaksThere = EVERY_BIT;
        private final int[] pinchHour = new int[PINCHES];
        private final int[] pinchHouse = new int[PINCHES];
        private int pinches;
        private int pinchesThere = EVERY_BIT;
        private int shutHouse = NONE;

        private Town() {
            for (int hour = 0; hour < HOURS; hour++) {
                elbows[hour] = LATER_ELBOWS;
            }
        }

        /** Takes the elbows from their text and tells its fault. */
        private int readElbows(Text text) {
            int fault = NONE;
            for (int i = 0; i < text.size && fault == NONE; i++) {
                if (!within(text.bytes[i], '0', '9')) {
                    fault = i;
                }
            }
            elbowsTold = fault == NONE ? Math.min(text.size, HOURS) : 0;
            for (int hour = 0; hour < HOURS; hour++) {
                elbows[hour] = hour < elbowsTold ? text.bytes[hour] - '0' : LATER_ELBOWS;
            }
            return fault;
        }

        private void addLeak(int hour, int much, int patched) {
            if (leaks < LEAKS) {
                leakFrom[leaks] = hour;
                leakMuch[leaks] = much;
                leakPatched[leaks] = patched;
                leaks++;
            }
        }

        private void addPinch(int hour, int house) {
            if (pinches < PINCHES) {
                pinchHour[pinches] = hour;
                pinchHouse[pinches] = house;
                pinches++;
            }
        }

        private int leaking(int hour) {
            int much = 0;
            for (int i = 0; i < leaks; i++) {
                boolean open = hour >= leakFrom[i] && (leakPatched[i] <= leakFrom[i] || hour < leakPatched[i]);
                if (open && (leaksThere >> i & 1) == 1) {
                    much += leakMuch[i];
                }
            }
            return much;
        }

        /** Tells how much each pipe lets through in an hour. */
        private void openPipes(int hour, int[] left) {
            for (int house = 0; house < HOUSES && house < left.length; house++) {
                left[house] = house == shutHouse ? 0 : street.wide[house];
            }
            for (int i = 0; i < pinches; i++) {
                int house = pinchHouse[i];
                boolean there = pinchHour[i] == hour && (pinchesThere >> i & 1) == 1;
                if (there && house >= 0 && house < left.length) {
                    left[house] = 0;
                }
            }
        }
    }

    /** What comes of a town, hour by hour. */
    private static final class Course {
        private final int[] air = new int[HOURS];
        private final int[] lost = new int[HOURS];
        private final int[] chord = new int[HOURS];
        private final int[] shorts = new int[HOURS];
        private final int[] gotten = new int[HOURS * HOUSES];
        private final int[] left = new int[HOUSES];

        private void follow(Town town) {
            Street street = town.street;
            int rest = town.start;
            for (int hour = 0; hour < HOURS; hour++) {
                int full = Math.min(town.room, rest + town.lift * town.elbows[hour]);
                lost[hour] = Math.min(full, town.leaking(hour));
                rest = full - lost[hour];
                chord[hour] = 0;
                shorts[hour] = 0;
                town.openPipes(hour, left);
                for (int house = 0; house < street.houses; house++) {
                    int at = hour * HOUSES + house;
                    int need = needOf(street.doneIn[at]);
                    int much = draw(street.on, house, Math.min(need, rest));
                    gotten[at] = much;
                    rest -= much;
                    chord[hour] |= much > 0 ? 1 << street.note[house] : 0;
                    shorts[hour] |= much < need ? 1 << house : 0;
                }
                air[hour] = rest;
            }
        }

        /** Draws as much of what is wanted as every pipe on the way can still bring. */
        private int draw(int[] on, int house, int wanted) {
            int much = wanted;
            int pipe = house;
            for (int i = 0; i < HOUSES && pipe >= 0 && pipe < HOUSES; i++) {
                much = left[pipe] < much ? left[pipe] : much;
                pipe = on[pipe];
            }
            pipe = house;
            for (int i = 0; i < HOUSES && pipe >= 0 && pipe < HOUSES; i++) {
                left[pipe] -= much;
                pipe = on[pipe];
            }
            return much;
        }

        private int gotBy(int hour, int house) {
            return within(hour, 0, HOURS - 1) && within(house, 0, HOUSES - 1) ? gotten[hour * HOUSES + house] : NONE;
        }

        private int firstShort(int who) {
            for (int hour = 0; hour < HOURS; hour++) {
                if ((shorts[hour] & who) != 0) {
                    return hour;
                }
            }
            return NONE;
        }

        private int shortHours(int house) {
            int many = 0;
            for (int hour = 0; hour < HOURS; hour++) {
                many += shorts[hour] >> house & 1;
            }
            return many;
        }

        private int shortsInAll() {
            int many = 0;
            for (int hour = 0; hour < HOURS; hour++) {
                many += Integer.bitCount(shorts[hour]);
            }
            return many;
        }

        private int everShort() {
            int who = 0;
            for (int hour = 0; hour < HOURS; hour++) {
                who |= shorts[hour];
            }
            return who;
        }
    }

    /** Four rows of items, each of a form, or lost. */
    private static final class Sheets {
        private final int[] form = new int[SHEETS];
        private final int[] size = new int[SHEETS];
        private final int[] items = new int[SHEETS * ITEMS];

        private Sheets() {
            for (int s = 0; s < SHEETS; s++) {
                form[s] = NONE;
            }
        }

        private boolean isLost(int s) {
            return form[s] == NONE;
        }

        private void renew(int s, int newForm, int n) {
            form[s] = newForm;
            size[s] = n;
            for (int i = 0; i < ITEMS; i++) {
                items[s * ITEMS + i] = 0;
            }
        }

        private void drop(int s) {
            form[s] = NONE;
            size[s] = 0;
        }

        private boolean has(int s, int i, int n) {
            return i >= 0 && n >= 0 && i <= size[s] - n;
        }

        private int item(int s, int i) {
            return has(s, i, 1) ? items[s * ITEMS + i] : NONE;
        }

        private void store(int s, int i, int v) {
            if (has(s, i, 1)) {
                items[s * ITEMS + i] = form[s] == BYTES ? (byte) v : form[s] == SHORTS ? (short) v : v;
            }
        }

        /** The system's copy takes items as they were, even where the two places overlap. */
        private void move(int s, int i, int t, int j, int n) {
            System.arraycopy(items, s * ITEMS + i, items, t * ITEMS + j, n);
        }
    }
}
