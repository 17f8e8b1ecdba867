/** A walled town at dusk: gates, by-laws, carts, passes, clerks, guests and the wall. */
public final class DuskGates {
    public static final int NONE = -1000000, BAD = -1000001, STATE = -1000002, FULL = -1000003;

    private static final int NULL = 1, PLACE = 2, KIND = 3, SIZE = 4, STORE = 5;
    private static final int BEFORE_FINDINGS = -1000010;
    private static final int BEFORE_FAULTS = -1000100;

    private static final int LAST_DAY = 999;
    private static final int LAST_MINUTE = 1439;
    private static final int MIDNIGHT = 1440;
    private static final int LAST_PLACE = 999;
    private static final int GATES = 9;
    private static final int TOWNS = 8;
    private static final int WARES = 8;
    private static final int PERSONS = 12;
    private static final int HOUSES = 8;
    private static final int LENGTHS = 12;

    private final Sheets sheets = new Sheets();
    private final Gates gates = new Gates();
    private final ByLaws bylaws = new ByLaws();
    private final Reader reader = new Reader(bylaws);
    private final Carts carts = new Carts(gates, bylaws);
    private final Papers papers = new Papers(gates, bylaws);
    private final Asks asks = new Asks(papers);
    private final Queues queues = new Queues();
    private final Sickness sickness = new Sickness();
    private final Wall wall = new Wall();
    private final Fewest fewest = new Fewest();
    private int theDay;
    private int finding;

    public DuskGates() {
    }

    // ---- sheets

    public int sheet(int sheet, int lane, int n) {
        if (!isSheet(sheet) || !within(lane, Sheets.BYTES, Sheets.INTS) || n > Sheets.LONGEST) {
            return BAD;
        }
        if (n < 0) {
            return found(SIZE);
        }
        sheets.lay(sheet, lane, n);
        return fine(n);
    }

    public int set(int sheet, int i, int v) {
        if (!isSheet(sheet)) {
            return BAD;
        }
        int flaw = flawOf(sheet, i, 1);
        if (flaw != 0) {
            return found(flaw);
        }
        return fine(sheets.put(sheet, i, v));
    }

    public int copy(int a, int i, int b, int j, int n) {
        if (!isSheet(a) || !isSheet(b)) {
            return BAD;
        }
        if (sheets.isMissing(a) || sheets.isMissing(b)) {
            return found(NULL);
        }
        if (sheets.laneOf(a) != sheets.laneOf(b)) {
            return found(STORE);
        }
        if (!sheets.hasPlaces(a, i, n) || !sheets.hasPlaces(b, j, n)) {
            return found(PLACE);
        }
        sheets.move(a, i, b, j, n);
        return fine(n);
    }

    public int drop(int sheet) {
        if (!isSheet(sheet)) {
            return BAD;
        }
        if (sheets.isMissing(sheet)) {
            return found(NULL);
        }
        return fine(sheets.takeAway(sheet));
    }

    // ---- gates, by-laws

    public int bell(int gate, int opens, int shuts) {
        if (!isGate(gate) || opens < 0 || shuts > MIDNIGHT || shuts <= opens) {
            return BAD;
        }
        gates.opens[gate] = opens;
        gates.shuts[gate] = shuts;
        return 1;
    }

    public int part(int gate, int v) {
        if (!isGate(gate) || !within(v, 1, 300)) {
            return BAD;
        }
        int was = gates.shares[gate];
        gates.shares[gate] = v;
        return was;
    }

    public int stands(int gate, int x, int y) {
        if (!isGate(gate) || !isPlace(x, y)) {
            return BAD;
        }
        gates.xs[gate] = x;
        gates.ys[gate] = y;
        return 1;
    }

    public int feed(long w, int n) {
        if (!within(n, 1, 8)) {
            return BAD;
        }
        if (!reader.hasRoom(n)) {
            return FULL;
        }
        reader.append(w, n);
        return reader.length;
    }

    public int laws() {
        if (reader.readTape()) {
            return bylaws.standing;
        }
        return BEFORE_FAULTS - reader.faultPlace;
    }

    public int fault() {
        return reader.latestFault;
    }

    public int holds(int day, int what) {
        if (!isDay(day) || !ByLaws.isTopic(what)) {
            return BAD;
        }
        return bylaws.inForce(day, what);
    }

    // ---- carts

    public int cart(int sheet, int i) {
        if (!isSheet(sheet)) {
            return BAD;
        }
        if (carts.carts >= Carts.MOST_CARTS) {
            return FULL;
        }
        int flaw = flawOf(sheet, i, Carts.ITEMS);
        if (flaw != 0) {
            return found(flaw);
        }
        for (int k = 0; k < Carts.ITEMS; k++) {
            if (!within(sheets.itemAt(sheet, i + k), 0, k == 0 ? Carts.MOST_WHEELS : Carts.MOST_MEASURES)) {
                return BAD;
            }
        }
        return fine(carts.addCart(sheets, sheet, i));
    }

    public int owed(int cart, int gate, int day) {
        if (!isCart(cart) || !isDay(day)) {
            return BAD;
        }
        if (gate == NONE) {
            return carts.leastGate(cart, day);
        }
        return isGate(gate) ? carts.owedAt(cart, gate, day) : BAD;
    }

    public int pass(int cart, int in, int gate, int day, int minute, int paid) {
        if (!isCart(cart) || !within(in, 0, 1) || !isGate(gate)) {
            return BAD;
        }
        if (!isDay(day) || !isMinute(minute) || !within(paid, 0, 100000)) {
            return BAD;
        }
        if (carts.passings >= Carts.MOST_PASSINGS) {
            return FULL;
        }
        return carts.addPassing(cart, in, gate, day, minute, paid);
    }

    public int agree(int what) {
        switch (what) {
            case 0:
                return carts.wrongPassings();
            case 1:
                return carts.cartsInside();
            case 2:
                return carts.lostCarts();
            default:
                return BAD;
        }
    }

    public int amiss(int gate, int from, int to) {
        if (gate != NONE && !isGate(gate) || !areDays(from, to)) {
            return BAD;
        }
        return carts.shortOf(gate, from, to);
    }

    // ---- passes

    public int road(int a, int b, int days) {
        if (!isTown(a) || b != NONE && !isTown(b) || a == b || !within(days, 1, 60)) {
            return BAD;
        }
        return b == NONE ? papers.layRoadToGates(a, days) : papers.layRoad(a, b, days);
    }

    public int sick(int town, int from, int to) {
        if (!isTown(town) || !areDays(from, to)) {
            return BAD;
        }
        if (papers.sicknesses >= Papers.MOST_SICK) {
            return FULL;
        }
        return papers.addSick(town, from, to);
    }

    public int seal(int sheet, int i) {
        if (!isSheet(sheet)) {
            return BAD;
        }
        if (papers.passes >= Papers.MOST_PASSES) {
            return FULL;
        }
        int flaw = flawOf(sheet, i, Papers.ITEMS);
        if (flaw != 0) {
            return found(flaw);
        }
        for (int k = 0; k < Papers.ITEMS; k++) {
            int least = k == Papers.LAST ? sheets.itemAt(sheet, i + Papers.GIVEN) : 0;
            if (!within(sheets.itemAt(sheet, i + k), least, Papers.HIGHEST[k])) {
                return BAD;
            }
        }
        return fine(papers.addPass(sheets, sheet, i));
    }

    public int canbe(int person) {
        if (!isPerson(person)) {
            return BAD;
        }
        return papers.canBeTrue(person) ? 1 : 0;
    }

    public int lets(int pass, int day, int gate, int minute) {
        if (!isPass(pass) || !isDay(day) || !isGate(gate) || !isMinute(minute)) {
            return BAD;
        }
        return papers.letsIn(pass, day, gate, minute) ? 1 : 0;
    }

    public int dusk(int x, int y, int minute, int pace) {
        if (!isPlace(x, y) || !isMinute(minute) || !within(pace, 1, 60)) {
            return BAD;
        }
        return gates.firstIn(x, y, minute, pace);
    }

    // ---- clerks, guests, the wall

    public int clerks(int sheet, int i, int n, int k, int c, int what) {
        if (!isSheet(sheet) || !within(n, 1, Queues.MOST_ARRIVALS) || !within(k, 1, 60)) {
            return BAD;
        }
        if (!within(c, 1, Queues.MOST_CLERKS) || !within(what, 0, Queues.MANNED)) {
            return BAD;
        }
        int flaw = flawOf(sheet, i, 2 * n);
        if (flaw != 0) {
            return found(flaw);
        }
        queues.clear();
        for (int a = 0; a < n; a++) {
            int gate = sheets.itemAt(sheet, i + 2 * a);
            int minute = sheets.itemAt(sheet, i + 2 * a + 1);
            if (!within(gate, 0, Queues.MANNED - 1) || !isMinute(minute)) {
                return BAD;
            }
            queues.comes(gate, minute);
        }
        if (!queues.shareOut(k, c)) {
            return fine(NONE);
        }
        return fine(what == 0 ? queues.leastWaited : queues.best[what - 1]);
    }

    public int guest(int person, int house, int from, int to) {
        if (!isPerson(person) || !isHouse(house) || !areDays(from, to)) {
            return BAD;
        }
        if (sickness.guests >= Sickness.MOST_GUESTS) {
            return FULL;
        }
        return sickness.addGuest(person, house, from, to);
    }

    public int fell(int house, int day) {
        if (!isHouse(house) || !isDay(day)) {
            return BAD;
        }
        return sickness.addCase(house, day) ? 1 : 0;
    }

    public int brought(int what) {
        if (!within(what, 0, 2)) {
            return BAD;
        }
        sickness.tellWhoMay(fewest.covers);
        if (what == 2) {
            return fewest.anyUse(PERSONS);
        }
        fewest.search(PERSONS, sickness.housesWithCases());
        return what == 0 ? fewest.least : fewest.sure;
    }

    public int high(int length, int v) {
        if (!isLength(length) || !within(v, 1, 99)) {
            return BAD;
        }
        int was = wall.heights[length];
        wall.heights[length] = v;
        return was;
    }

    public int lean(int length, int inside, int outside) {
        if (!isLength(length) || !within(inside, 0, 99) || !within(outside, 0, 99)) {
            return BAD;
        }
        if (wall.leaning >= Wall.MOST_LEANING) {
            return FULL;
        }
        return wall.addHouse(length, inside, outside);
    }

    public int breaches() {
        return wall.passable();
    }

    public int watch(int sheet, int i, int n) {
        if (!isSheet(sheet) || !within(n, 1, Fewest.MOST)) {
            return BAD;
        }
        int flaw = flawOf(sheet, i, n);
        if (flaw != 0) {
            return found(flaw);
        }
        for (int k = 0; k < n; k++) {
            int lengths = sheets.itemAt(sheet, i + k);
            if (!within(lengths, 0, (1 << LENGTHS) - 1)) {
                return BAD;
            }
            fewest.covers[k] = lengths;
        }
        fewest.search(n, wall.passable());
        return fine(fewest.least);
    }

    // ---- asked

    public int day(int day) {
        if (!isDay(day)) {
            return BAD;
        }
        int was = theDay;
        theDay = day;
        return was;
    }

    public int kind(int pass) {
        return isPass(pass) ? papers.kindOn(pass, theDay) : BAD;
    }

    public int as(int pass, int kind) {
        if (!isPass(pass) || !within(kind, Papers.PASS, Papers.NIGHT)) {
            return BAD;
        }
        if (!papers.isOfKind(pass, kind, theDay)) {
            return found(KIND);
        }
        return fine(papers.itemOf(pass, Papers.SEAL));
    }

    public int ask(int pass, int what) {
        if (!isPass(pass) || !within(what, 0, 1)) {
            return BAD;
        }
        asks.left = 0;
        int kind = papers.kindOn(pass, theDay);
        return what == 0 ? asks.sizeOf(pass, kind) : asks.markOf(pass, kind);
    }

    public int trace(int i) {
        return within(i, 0, asks.left - 1) ? asks.bodies[i] : NONE;
    }

    public int count(int what) {
        switch (what) {
            case 0:
                return sheets.present();
            case 1:
                return bylaws.standing;
            case 2:
                return carts.carts;
            case 3:
                return carts.passings;
            case 4:
                return papers.passes;
            case 5:
                return papers.howMany(Papers.HEALTH, theDay);
            case 6:
                return papers.howMany(Papers.FORGED, theDay);
            case 7:
                return Integer.bitCount(sickness.housesWithCases());
            case 8:
                return reader.length;
            default:
                return BAD;
        }
    }

    public int status() {
        return finding;
    }

    // ---- what the calls share

    private int found(int number) {
        finding = number;
        return BEFORE_FINDINGS - number;
    }

    private int fine(int answer) {
        finding = 0;
        return answer;
    }

    /** NULL or PLACE, if a SHEET lacks n ITEMS from i on; else 0. */
    private int flawOf(int sheet, int i, int n) {
        if (sheets.isMissing(sheet)) {
            return NULL;
        }
        return sheets.hasPlaces(sheet, i, n) ? 0 : PLACE;
    }

    private boolean isCart(int cart) {
        return within(cart, 0, carts.carts - 1);
    }

    private boolean isPass(int pass) {
        return within(pass, 0, papers.passes - 1);
    }

    private static boolean isSheet(int sheet) {
        return within(sheet, 0, Sheets.MOST - 1);
    }

    private static boolean isGate(int gate) {
        return within(gate, 0, GATES - 1);
    }

    private static boolean isTown(int town) {
        return within(town, 0, TOWNS - 1);
    }

    private static boolean isPerson(int person) {
        return within(person, 0, PERSONS - 1);
    }

    private static boolean isHouse(int house) {
        return within(house, 0, HOUSES - 1);
    }

    private static boolean isLength(int length) {
        return within(length, 0, LENGTHS - 1);
    }

    private static boolean isDay(int day) {
        return within(day, 0, LAST_DAY);
    }

    private static boolean areDays(int from, int to) {
        return isDay(from) && isDay(to) && from <= to;
    }

    private static boolean isMinute(int minute) {
        return within(minute, 0, LAST_MINUTE);
    }

    private static boolean isPlace(int x, int y) {
        return within(x, 0, LAST_PLACE) && within(y, 0, LAST_PLACE);
    }

    private static boolean within(int v, int least, int most) {
        return v >= least && v <= most;
    }

    /** The SHEETS. All ITEMS are kept as ints, cut to their LANE as they are put. */
    private static final class Sheets {
        static final int MOST = 8;
        static final int LONGEST = 64;
        static final int BYTES = 0, SHORTS = 1, INTS = 2;
        private static final int MISSING = -1;

        private final int[] items = new int[MOST * LONGEST];
        private final int[] lanes = new int[MOST];
        private final int[] sizes = new int[MOST];

        Sheets() {
            for (int s = 0; s < MOST; s++) {
                sizes[s] = MISSING;
            }
        }

        boolean isMissing(int sheet) {
            return sizes[sheet] == MISSING;
        }

        int laneOf(int sheet) {
            return lanes[sheet];
        }

        // A subtraction, for i + n could wrap around.
        boolean hasPlaces(int sheet, int i, int n) {
            return i >= 0 && n >= 0 && n <= sizes[sheet] && i <= sizes[sheet] - n;
        }

        int itemAt(int sheet, int i) {
            return items[sheet * LONGEST + i];
        }

        void lay(int sheet, int lane, int n) {
            lanes[sheet] = lane;
            sizes[sheet] = n;
            for (int i = 0; i < n; i++) {
                items[sheet * LONGEST + i] = 0;
            }
        }

        int put(int sheet, int i, int v) {
            int kept = cutTo(lanes[sheet], v);
            items[sheet * LONGEST + i] = kept;
            return kept;
        }

        void move(int a, int i, int b, int j, int n) {
            System.arraycopy(items, a * LONGEST + i, items, b * LONGEST + j, n);
        }

        int takeAway(int sheet) {
            int had = sizes[sheet];
            sizes[sheet] = MISSING;
            return had;
        }

        int present() {
            int there = 0;
            for (int s = 0; s < MOST; s++) {
                if (!isMissing(s)) {
                    there++;
                }
            }
            return there;
        }

        private static int cutTo(int lane, int v) {
            if (lane == BYTES) {
                return (byte) v;
            }
            return lane == SHORTS ? (short) v : v;
        }
    }

    /** The GATES: when they are open, their SHARES and places. */
    private static final class Gates {
        final int[] opens = new int[GATES];
        final int[] shuts = new int[GATES];
        final int[] shares = new int[GATES];
        final int[] xs = new int[GATES];
        final int[] ys = new int[GATES];

        Gates() {
            for (int g = 0; g < GATES; g++) {
                opens[g] = 360;
                shuts[g] = 1080;
                shares[g] = 100;
            }
        }

        boolean isOpen(int gate, int minute) {
            return opens[gate] <= minute && minute < shuts[gate];
        }

        int firstIn(int x, int y, int minute, int pace) {
            int first = NONE;
            int earliest = MIDNIGHT;
            for (int g = 0; g < GATES; g++) {
                int steps = Math.abs(x - xs[g]) + Math.abs(y - ys[g]);
                int in = Math.max(minute + steps * pace / 100, opens[g]);
                if (in < shuts[g] && in < earliest) {
                    first = g;
                    earliest = in;
                }
            }
            return first;
        }
    }

    /** The BY-LAWS: each tells from a day on the value of a topic, numbered as holds() asks for it. */
    private static final class ByLaws {
        static final int MOST = 30;
        static final int OF_WHEELS = 0, OF_TOLLS = 10, OF_FREE = 20, OF_SEALS = 30, OF_BANS = 40;

        private final int[] days = new int[MOST];
        private final int[] topics = new int[MOST];
        private final int[] values = new int[MOST];
        int standing;
        // Laws of a text that is still being read lie behind those that stand.
        private int drafted;

        static boolean isTopic(int what) {
            return what == OF_WHEELS
                    || within(what, OF_TOLLS, OF_TOLLS + WARES - 1)
                    || within(what, OF_FREE, OF_FREE + WARES - 1)
                    || within(what, OF_SEALS, OF_SEALS + TOWNS - 1)
                    || within(what, OF_BANS, OF_BANS + PERSONS - 1);
        }

        int inForce(int day, int topic) {
            int value = within(topic, OF_SEALS, OF_SEALS + TOWNS - 1) ? 1 : 0;
            int since = -1;
            for (int k = 0; k < standing; k++) {
                if (topics[k] == topic && days[k] <= day && days[k] >= since) {
                    value = values[k];
                    since = days[k];
                }
            }
            return value;
        }

        void beginDraft() {
            drafted = standing;
        }

        boolean isDraftFull() {
            return drafted >= MOST;
        }

        void draft(int day, int topic, int value) {
            if (drafted < MOST) {
                days[drafted] = day;
                topics[drafted] = topic;
                values[drafted] = value;
                drafted++;
            }
        }

        void passDraft() {
            standing = drafted;
        }
    }

    /** THE TAPE, and how its text is read into the BY-LAWS. */
    private static final class Reader {
        private static final int LONGEST = 400;
        private static final int LONGEST_NUMBER = 4;
        private static final int END = 0, NAME = 1, NUMBER = 2, SIGN = 3, NO_TOKEN = 4;
        private static final int MISPLACED = 1, NOT_AS_TOLD = 2, TOO_MANY = 3;
        private static final int HIGHEST = 999;
        private static final int NO_WORD = -1, WHEEL = 0, TOLL = 1, FREE = 2, GOOD = 3, TAINTED = 4, BAN = 5, LIFT = 6;
        private static final int[] TOPIC = {
            ByLaws.OF_WHEELS, ByLaws.OF_TOLLS, ByLaws.OF_FREE, ByLaws.OF_SEALS, ByLaws.OF_SEALS,
            ByLaws.OF_BANS, ByLaws.OF_BANS};
        private static final int[] HIGHEST_FIRST = {
            HIGHEST, WARES - 1, WARES - 1, TOWNS - 1, TOWNS - 1, PERSONS - 1, PERSONS - 1};

        private final ByLaws bylaws;
        private final int[] bytes = new int[LONGEST];
        int length;
        private int place;
        private int tokenStart;
        private int tokenSort;
        private int number;
        int faultPlace;
        int latestFault;

        Reader(ByLaws bylaws) {
            this.bylaws = bylaws;
        }

        boolean hasRoom(int n) {
            return n <= LONGEST - length;
        }

        void append(long w, int n) {
            for (int k = n - 1; k >= 0; k--) {
                bytes[length] = (int) (w >>> (8 * k)) & 255;
                length++;
            }
        }

        /** Whether all the text has come into the BY-LAWS; if not, there is a fault and none has. */
        boolean readTape() {
            place = 0;
            bylaws.beginDraft();
            nextToken();
            boolean sound = true;
            for (int k = 0; k < LONGEST && sound && tokenSort != END; k++) {
                sound = readSection();
            }
            if (sound) {
                bylaws.passDraft();
            }
            length = 0;
            return sound;
        }

        private boolean readSection() {
            if (!spells("from")) {
                return blame(MISPLACED);
            }
            nextToken();
            if (!isNumberUpTo(LAST_DAY)) {
                return false;
            }
            int day = number;
            nextToken();
            boolean sound = readLaw(day);
            for (int k = 0; k < LONGEST && sound && tokenSort != SIGN; k++) {
                sound = readLaw(day);
            }
            if (sound) {
                nextToken();
            }
            return sound;
        }

        private boolean readLaw(int day) {
            int word = lawWord();
            if (word == NO_WORD) {
                return blame(MISPLACED);
            }
            if (bylaws.isDraftFull()) {
                return blame(TOO_MANY);
            }
            nextToken();
            if (!isNumberUpTo(HIGHEST_FIRST[word])) {
                return false;
            }
            int first = number;
            nextToken();
            if (word == TOLL || word == FREE) {
                if (!isNumberUpTo(HIGHEST)) {
                    return false;
                }
                bylaws.draft(day, TOPIC[word] + first, number);
                nextToken();
            } else if (word == WHEEL) {
                bylaws.draft(day, TOPIC[word], first);
            } else {
                bylaws.draft(day, TOPIC[word] + first, word == GOOD || word == BAN ? 1 : 0);
            }
            return true;
        }

        private int lawWord() {
            if (spells("wheel")) {
                return WHEEL;
            }
            if (spells("toll")) {
                return TOLL;
            }
            if (spells("free")) {
                return FREE;
            }
            if (spells("good")) {
                return GOOD;
            }
            if (spells("bad")) {
                return TAINTED;
            }
            if (spells("ban")) {
                return BAN;
            }
            return spells("lift") ? LIFT : NO_WORD;
        }

        private boolean isNumberUpTo(int most) {
            if (tokenSort != NUMBER) {
                return blame(MISPLACED);
            }
            return number <= most || blame(NOT_AS_TOLD);
        }

        private boolean blame(int fault) {
            latestFault = fault;
            faultPlace = tokenStart;
            return false;
        }

        private boolean spells(String word) {
            if (tokenSort != NAME || place - tokenStart != word.length()) {
                return false;
            }
            for (int k = 0; k < word.length(); k++) {
                if (bytes[tokenStart + k] != word.charAt(k)) {
                    return false;
                }
            }
            return true;
        }

        private void nextToken() {
            while (place < length && (bytes[place] == ' ' || bytes[place] == '\n')) {
                place++;
            }
            tokenStart = place;
            if (place >= length) {
                tokenSort = END;
            } else if (isLetter(bytes[place])) {
                readName();
            } else if (isFigure(bytes[place])) {
                readNumber();
            } else {
                tokenSort = bytes[place] == ';' ? SIGN : NO_TOKEN;
                place++;
            }
        }

        private void readName() {
            tokenSort = NAME;
            while (place < length && isLetter(bytes[place])) {
                place++;
            }
        }

        private void readNumber() {
            number = 0;
            while (place < length && isFigure(bytes[place])) {
                if (place - tokenStart < LONGEST_NUMBER) {
                    number = number * 10 + bytes[place] - '0';
                }
                place++;
            }
            tokenSort = place - tokenStart <= LONGEST_NUMBER ? NUMBER : NO_TOKEN;
        }

        private static boolean isLetter(int b) {
            return b >= 'a' && b <= 'z';
        }

        private static boolean isFigure(int b) {
            return b >= '0' && b <= '9';
        }
    }

    /** The CARTS, what they owe, and their PASSINGS. */
    private static final class Carts {
        static final int MOST_CARTS = 16;
        static final int MOST_PASSINGS = 60;
        static final int ITEMS = 1 + WARES;
        static final int MOST_WHEELS = 4;
        static final int MOST_MEASURES = 99;

        private final Gates gates;
        private final ByLaws bylaws;
        private final int[] loads = new int[MOST_CARTS * ITEMS];
        int carts;
        // The PASSINGS lie by days and MINUTES, those of one MINUTE as told.
        private final int[] times = new int[MOST_PASSINGS];
        private final int[] passers = new int[MOST_PASSINGS];
        private final int[] ways = new int[MOST_PASSINGS];
        private final int[] passed = new int[MOST_PASSINGS];
        private final int[] payments = new int[MOST_PASSINGS];
        int passings;

        Carts(Gates gates, ByLaws bylaws) {
            this.gates = gates;
            this.bylaws = bylaws;
        }

        int addCart(Sheets sheets, int sheet, int i) {
            for (int k = 0; k < ITEMS; k++) {
                loads[carts * ITEMS + k] = sheets.itemAt(sheet, i + k);
            }
            carts++;
            return carts - 1;
        }

        int owedAt(int cart, int gate, int day) {
            return wholeToll(cart, day) * gates.shares[gate] / 100;
        }

        int leastGate(int cart, int day) {
            int whole = wholeToll(cart, day);
            int gate = 0;
            for (int g = 1; g < GATES; g++) {
                if (whole * gates.shares[g] / 100 < whole * gates.shares[gate] / 100) {
                    gate = g;
                }
            }
            return gate;
        }

        private int wholeToll(int cart, int day) {
            int whole = loads[cart * ITEMS] * bylaws.inForce(day, ByLaws.OF_WHEELS);
            for (int w = 0; w < WARES; w++) {
                int measures = loads[cart * ITEMS + 1 + w];
                if (measures > bylaws.inForce(day, ByLaws.OF_FREE + w)) {
                    whole += measures * bylaws.inForce(day, ByLaws.OF_TOLLS + w);
                }
            }
            return whole;
        }

        int addPassing(int cart, int in, int gate, int day, int minute, int paid) {
            int time = day * MIDNIGHT + minute;
            int at = passings;
            while (at > 0 && times[at - 1] > time) {
                shiftOn(at - 1);
                at--;
            }
            times[at] = time;
            passers[at] = cart;
            ways[at] = in;
            passed[at] = gate;
            payments[at] = paid;
            passings++;
            return passings;
        }

        private void shiftOn(int k) {
            times[k + 1] = times[k];
            passers[k + 1] = passers[k];
            ways[k + 1] = ways[k];
            passed[k + 1] = passed[k];
            payments[k + 1] = payments[k];
        }

        int wrongPassings() {
            int wrong = 0;
            int inside = 0;
            for (int k = 0; k < passings; k++) {
                int wasIn = inside >> passers[k] & 1;
                if (wasIn == ways[k] || !gates.isOpen(passed[k], times[k] % MIDNIGHT)) {
                    wrong++;
                }
                inside = afterPassing(inside, k);
            }
            return wrong;
        }

        int cartsInside() {
            int inside = 0;
            for (int k = 0; k < passings; k++) {
                inside = afterPassing(inside, k);
            }
            return Integer.bitCount(inside);
        }

        private int afterPassing(int inside, int k) {
            int bit = 1 << passers[k];
            return ways[k] == 1 ? inside | bit : inside & ~bit;
        }

        int lostCarts() {
            int lost = 0;
            for (int cart = 0; cart < carts; cart++) {
                int moreOut = 0;
                for (int k = 0; k < passings; k++) {
                    if (passers[k] == cart) {
                        moreOut += ways[k] == 1 ? -1 : 1;
                    }
                }
                if (moreOut > 0) {
                    lost++;
                }
            }
            return lost;
        }

        int shortOf(int gate, int from, int to) {
            int missing = 0;
            for (int k = 0; k < passings; k++) {
                int day = times[k] / MIDNIGHT;
                boolean meant = gate == NONE || gate == passed[k];
                if (meant && ways[k] == 1 && within(day, from, to)) {
                    missing += owedAt(passers[k], passed[k], day) - payments[k];
                }
            }
            return missing;
        }
    }

    /** The PASSES, the ROADS and the SICK TOWNS: what a PASS is, and whom it lets in. */
    private static final class Papers {
        static final int MOST_PASSES = 16;
        static final int MOST_SICK = 20;
        static final int ITEMS = 7;
        static final int SORT = 0, PERSON = 1, SEAL = 2, HAND = 3, TOWN = 4, GIVEN = 5, LAST = 6;
        static final int[] HIGHEST = {3, PERSONS - 1, 99, 9, TOWNS - 1, LAST_DAY, LAST_DAY};
        static final int PASS = 0, TOLL = 1, HEALTH = 2, FORGED = 3, NIGHT = 4;
        private static final int TOLL_SORT = 1, HEALTH_SORT = 2, NIGHT_SORT = 3;
        private static final int FIRST_ROAD = 5;

        private final Gates gates;
        private final ByLaws bylaws;
        private final int[] rows = new int[MOST_PASSES * ITEMS];
        int passes;
        private final int[] roads = new int[TOWNS * TOWNS];
        private final int[] roadsToGates = new int[TOWNS];
        private final int[] sickTowns = new int[MOST_SICK];
        private final int[] sickFrom = new int[MOST_SICK];
        private final int[] sickTo = new int[MOST_SICK];
        int sicknesses;

        Papers(Gates gates, ByLaws bylaws) {
            this.gates = gates;
            this.bylaws = bylaws;
            for (int a = 0; a < TOWNS; a++) {
                roadsToGates[a] = FIRST_ROAD;
                for (int b = 0; b < TOWNS; b++) {
                    roads[a * TOWNS + b] = a == b ? 0 : FIRST_ROAD;
                }
            }
        }

        int layRoad(int a, int b, int days) {
            int was = roads[a * TOWNS + b];
            roads[a * TOWNS + b] = days;
            roads[b * TOWNS + a] = days;
            return was;
        }

        int layRoadToGates(int town, int days) {
            int was = roadsToGates[town];
            roadsToGates[town] = days;
            return was;
        }

        int addSick(int town, int from, int to) {
            sickTowns[sicknesses] = town;
            sickFrom[sicknesses] = from;
            sickTo[sicknesses] = to;
            sicknesses++;
            return sicknesses;
        }

        int addPass(Sheets sheets, int sheet, int i) {
            for (int k = 0; k < ITEMS; k++) {
                rows[passes * ITEMS + k] = sheets.itemAt(sheet, i + k);
            }
            passes++;
            return passes - 1;
        }

        int itemOf(int pass, int item) {
            return rows[pass * ITEMS + item];
        }

        boolean canBeTrue(int person) {
            for (int p = 0; p < passes; p++) {
                for (int q = 0; q < p; q++) {
                    boolean both = itemOf(p, PERSON) == person && itemOf(q, PERSON) == person;
                    if (both && !areFarEnough(p, q)) {
                        return false;
                    }
                }
            }
            return true;
        }

        private boolean areFarEnough(int p, int q) {
            int apart = Math.abs(itemOf(p, GIVEN) - itemOf(q, GIVEN));
            return apart >= roads[itemOf(p, TOWN) * TOWNS + itemOf(q, TOWN)];
        }

        boolean letsIn(int pass, int day, int gate, int minute) {
            if (bylaws.inForce(day, ByLaws.OF_BANS + itemOf(pass, PERSON)) == 1 || day > itemOf(pass, LAST)) {
                return false;
            }
            if (day - itemOf(pass, GIVEN) < roadsToGates[itemOf(pass, TOWN)] || isForged(pass, day)) {
                return false;
            }
            return gates.isOpen(gate, minute) || itemOf(pass, SORT) == NIGHT_SORT;
        }

        int kindOn(int pass, int day) {
            switch (itemOf(pass, SORT)) {
                case TOLL_SORT:
                    return TOLL;
                case HEALTH_SORT:
                    return isForged(pass, day) ? FORGED : HEALTH;
                case NIGHT_SORT:
                    return NIGHT;
                default:
                    return PASS;
            }
        }

        boolean isOfKind(int pass, int kind, int day) {
            int told = kindOn(pass, day);
            return kind == PASS || kind == told || kind == HEALTH && told == FORGED;
        }

        int howMany(int kind, int day) {
            int such = 0;
            for (int p = 0; p < passes; p++) {
                if (isOfKind(p, kind, day)) {
                    such++;
                }
            }
            return such;
        }

        private boolean isForged(int pass, int day) {
            if (itemOf(pass, SORT) != HEALTH_SORT) {
                return false;
            }
            int town = itemOf(pass, TOWN);
            return wasSick(town, itemOf(pass, GIVEN))
                    || bylaws.inForce(day, ByLaws.OF_SEALS + town) == 0
                    || isSealOfOtherHand(pass);
        }

        private boolean wasSick(int town, int day) {
            for (int k = 0; k < sicknesses; k++) {
                if (sickTowns[k] == town && within(day, sickFrom[k], sickTo[k])) {
                    return true;
                }
            }
            return false;
        }

        private boolean isSealOfOtherHand(int pass) {
            for (int p = 0; p < pass; p++) {
                if (itemOf(p, SEAL) == itemOf(pass, SEAL) && itemOf(p, HAND) != itemOf(pass, HAND)) {
                    return true;
                }
            }
            return false;
        }
    }

    /** The BODIES of the ASKS, and THE TRACE that they leave. */
    private static final class Asks {
        private static final int LONGEST = 16;

        private final Papers papers;
        final int[] bodies = new int[LONGEST];
        int left;

        Asks(Papers papers) {
            this.papers = papers;
        }

        int sizeOf(int pass, int kind) {
            switch (kind) {
                case Papers.TOLL:
                    return tollSize(pass);
                case Papers.HEALTH:
                    return healthSize(pass, false);
                case Papers.FORGED:
                    return forgedSize(pass);
                case Papers.NIGHT:
                    return nightSize(pass);
                default:
                    return lentSize(pass);
            }
        }

        int markOf(int pass, int kind) {
            switch (kind) {
                case Papers.HEALTH:
                    return healthMark(pass);
                case Papers.FORGED:
                    return forgedMark(pass);
                case Papers.NIGHT:
                    return nightMark(pass);
                default:
                    return lentMark(pass);
            }
        }

        private int lentSize(int pass) {
            leave(10);
            return papers.itemOf(pass, Papers.LAST) - papers.itemOf(pass, Papers.GIVEN);
        }

        private int tollSize(int pass) {
            leave(11);
            return 2 * lentSize(pass);
        }

        // MARK is asked anew of the PASS, so of a FORGED one the FORGED body answers.
        private int healthSize(int pass, boolean forged) {
            leave(12);
            int days = lentSize(pass);
            return days + (forged ? forgedMark(pass) : healthMark(pass));
        }

        private int forgedSize(int pass) {
            leave(13);
            return -healthSize(pass, true);
        }

        private int nightSize(int pass) {
            leave(14);
            return lentSize(pass) + papers.itemOf(pass, Papers.PERSON);
        }

        private int lentMark(int pass) {
            leave(20);
            return papers.itemOf(pass, Papers.SEAL);
        }

        private int healthMark(int pass) {
            leave(21);
            return lentMark(pass) + 100 * papers.itemOf(pass, Papers.TOWN);
        }

        private int forgedMark(int pass) {
            leave(22);
            return healthMark(pass) + papers.itemOf(pass, Papers.HAND);
        }

        private int nightMark(int pass) {
            leave(23);
            int mark = lentMark(pass);
            return mark + nightSize(pass);
        }

        private void leave(int body) {
            if (left < LONGEST) {
                bodies[left] = body;
                left++;
            }
        }
    }

    /** ARRIVALS at GATES 0 to 3, and how CLERKS are best shared out over them. */
    private static final class Queues {
        static final int MOST_ARRIVALS = 20;
        static final int MOST_CLERKS = 8;
        static final int MANNED = 4;
        private static final int NO_WAY = -1;
        private static final int ROW = MOST_CLERKS + 1;

        // The ARRIVALS lie by MINUTES, those of one MINUTE as they stand.
        private final int[] minutes = new int[MOST_ARRIVALS];
        private final int[] comers = new int[MOST_ARRIVALS];
        private int arrivals;
        private final int[] freeAt = new int[MOST_CLERKS];
        private final int[] waits = new int[MANNED * ROW];
        final int[] best = new int[MANNED];
        int leastWaited;

        void clear() {
            arrivals = 0;
        }

        void comes(int gate, int minute) {
            if (arrivals >= MOST_ARRIVALS) {
                return;
            }
            int at = arrivals;
            while (at > 0 && minutes[at - 1] > minute) {
                minutes[at] = minutes[at - 1];
                comers[at] = comers[at - 1];
                at--;
            }
            minutes[at] = minute;
            comers[at] = gate;
            arrivals++;
        }

        /** Whether c CLERKS can be shared out; if so, best and leastWaited tell how. */
        boolean shareOut(int k, int c) {
            for (int g = 0; g < MANNED; g++) {
                for (int m = 0; m <= c; m++) {
                    waits[g * ROW + m] = waitedAt(g, m, k);
                }
            }
            leastWaited = NO_WAY;
            // From the most at GATE 0 down, so that of several ways the first is kept.
            for (int a = c; a >= 0; a--) {
                for (int b = c - a; b >= 0; b--) {
                    for (int d = c - a - b; d >= 0; d--) {
                        tryWay(a, b, d, c - a - b - d);
                    }
                }
            }
            return leastWaited != NO_WAY;
        }

        private void tryWay(int a, int b, int d, int e) {
            int atA = waits[a];
            int atB = waits[ROW + b];
            int atD = waits[2 * ROW + d];
            int atE = waits[3 * ROW + e];
            if (atA == NO_WAY || atB == NO_WAY || atD == NO_WAY || atE == NO_WAY) {
                return;
            }
            int waited = atA + atB + atD + atE;
            if (leastWaited == NO_WAY || waited < leastWaited) {
                leastWaited = waited;
                best[0] = a;
                best[1] = b;
                best[2] = d;
                best[3] = e;
            }
        }

        private int waitedAt(int gate, int m, int k) {
            for (int f = 0; f < m; f++) {
                freeAt[f] = 0;
            }
            int waited = 0;
            for (int a = 0; a < arrivals; a++) {
                if (comers[a] == gate) {
                    if (m == 0) {
                        return NO_WAY;
                    }
                    int clerk = firstFree(m);
                    int taken = Math.max(minutes[a], freeAt[clerk]);
                    waited += taken - minutes[a];
                    freeAt[clerk] = taken + k;
                }
            }
            return waited;
        }

        private int firstFree(int m) {
            int clerk = 0;
            for (int f = 1; f < m; f++) {
                if (freeAt[f] < freeAt[clerk]) {
                    clerk = f;
                }
            }
            return clerk;
        }
    }

    /** GUESTS of HOUSES, and the CASES there. */
    private static final class Sickness {
        static final int MOST_GUESTS = 40;
        private static final int WELL = -1;
        private static final int EARLIEST = 10, LATEST = 2;

        private final int[] persons = new int[MOST_GUESTS];
        private final int[] houses = new int[MOST_GUESTS];
        private final int[] froms = new int[MOST_GUESTS];
        private final int[] tos = new int[MOST_GUESTS];
        int guests;
        private final int[] cases = new int[HOUSES];

        Sickness() {
            for (int h = 0; h < HOUSES; h++) {
                cases[h] = WELL;
            }
        }

        int addGuest(int person, int house, int from, int to) {
            persons[guests] = person;
            houses[guests] = house;
            froms[guests] = from;
            tos[guests] = to;
            guests++;
            return guests;
        }

        boolean addCase(int house, int day) {
            if (cases[house] != WELL && cases[house] <= day) {
                return false;
            }
            cases[house] = day;
            return true;
        }

        int housesWithCases() {
            int fallen = 0;
            for (int h = 0; h < HOUSES; h++) {
                if (cases[h] != WELL) {
                    fallen |= 1 << h;
                }
            }
            return fallen;
        }

        /** Of each PERSON the set of HOUSES to which they MAY have brought it. */
        void tellWhoMay(int[] reached) {
            for (int p = 0; p < PERSONS; p++) {
                reached[p] = 0;
            }
            for (int k = 0; k < guests; k++) {
                int caseDay = cases[houses[k]];
                if (caseDay != WELL && froms[k] <= caseDay - LATEST && tos[k] >= caseDay - EARLIEST) {
                    reached[persons[k]] |= 1 << houses[k];
                }
            }
        }
    }

    /** THE WALL: of each LENGTH how HIGH it is, and the highest that leans on it. */
    private static final class Wall {
        static final int MOST_LEANING = 20;
        private static final int HIGH_AT_FIRST = 10;
        private static final int CLIMB = 2, DROP = 4;

        final int[] heights = new int[LENGTHS];
        private final int[] insides = new int[LENGTHS];
        private final int[] outsides = new int[LENGTHS];
        int leaning;

        Wall() {
            for (int l = 0; l < LENGTHS; l++) {
                heights[l] = HIGH_AT_FIRST;
            }
        }

        int addHouse(int length, int inside, int outside) {
            insides[length] = Math.max(insides[length], inside);
            outsides[length] = Math.max(outsides[length], outside);
            leaning++;
            return leaning;
        }

        int passable() {
            int lengths = 0;
            for (int l = 0; l < LENGTHS; l++) {
                if (insides[l] >= heights[l] - CLIMB && outsides[l] >= heights[l] - DROP) {
                    lengths |= 1 << l;
                }
            }
            return lengths;
        }
    }

    /** Of members that each cover a set of bits, the fewest that together cover all that are needed. */
    private static final class Fewest {
        static final int MOST = 12;

        final int[] covers = new int[MOST];
        int least;
        int sure;

        /** Tells the least set of the fewest (or NONE), and the members of all sets of so few (or 0). */
        void search(int n, int needed) {
            least = NONE;
            sure = 0;
            if (!doCover((1 << n) - 1, n, needed)) {
                return;
            }
            int fewest = n + 1;
            for (int set = 0; set < 1 << n; set++) {
                int size = Integer.bitCount(set);
                if (size <= fewest && doCover(set, n, needed)) {
                    if (size < fewest) {
                        fewest = size;
                        least = set;
                        sure = set;
                    } else {
                        sure &= set;
                    }
                }
            }
        }

        int anyUse(int n) {
            int useful = 0;
            for (int k = 0; k < n; k++) {
                if (covers[k] != 0) {
                    useful |= 1 << k;
                }
            }
            return useful;
        }

        private boolean doCover(int set, int n, int needed) {
            int lacking = needed;
            for (int k = 0; k < n; k++) {
                if ((set >> k & 1) == 1) {
                    lacking &= ~covers[k];
                }
            }
            return lacking == 0;
        }
    }
}
