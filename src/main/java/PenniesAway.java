import java.util.Arrays;

/** Pennies on leave: coins of a kingdom that must be home at the mint in time. */
public final class PenniesAway {
    public static final int NONE = -1000000, BAD = -1000001, STATE = -1000002, FULL = -1000003;

    private static final int FINDINGS = -1000010, FAULTS = -1000100;
    private static final int NO_FINDING = 0, NULL_FOUND = 1, PLACE_FOUND = 2, KIND_FOUND = 3,
            SIZE_FOUND = 4, STORE_FOUND = 5;

    private static final int ROWS = 8, IMAGES = 2, LAST_DAY = 9999;

    private final Row[] rows = new Row[ROWS];
    private final Realm[] images = new Realm[IMAGES];
    private final Reader reader = new Reader();
    private final Tape tape = reader.text;
    private final Acts acts = new Acts();
    private final Carrier carrier = new Carrier();
    private final Asker asker = new Asker();
    private Realm kingdom = new Realm();
    private Realm draft = new Realm();
    private int latestFinding = NO_FINDING;
    private int latestFault = 0;

    public PenniesAway() {
        for (int r = 0; r < ROWS; r++) {
            rows[r] = new Row();
        }
        for (int k = 0; k < IMAGES; k++) {
            images[k] = new Realm();
        }
    }

    // ---- rows

    public int row(int row, int lane, int n) {
        if (noRow(row) || outside(lane, 0, Row.INTS) || n > Row.ROOM) {
            return BAD;
        }
        if (n < 0) {
            return found(SIZE_FOUND);
        }
        rows[row].lay(lane, n);
        return answered(n);
    }

    public int set(int row, int i, int v) {
        if (noRow(row)) {
            return BAD;
        }
        Row r = rows[row];
        if (r.missing()) {
            return found(NULL_FOUND);
        }
        if (!r.holds(i, 1)) {
            return found(PLACE_FOUND);
        }
        return answered(r.put(i, v));
    }

    public int copy(int a, int i, int b, int j, int n) {
        if (noRow(a) || noRow(b)) {
            return BAD;
        }
        Row from = rows[a];
        Row to = rows[b];
        if (from.missing() || to.missing()) {
            return found(NULL_FOUND);
        }
        if (from.lane != to.lane) {
            return found(STORE_FOUND);
        }
        if (!from.holds(i, n) || !to.holds(j, n)) {
            return found(PLACE_FOUND);
        }
        System.arraycopy(from.items, i, to.items, j, n);
        return answered(n);
    }

    public int drop(int row) {
        if (noRow(row)) {
            return BAD;
        }
        Row r = rows[row];
        if (r.missing()) {
            return found(NULL_FOUND);
        }
        int had = r.size;
        r.takeAway();
        return answered(had);
    }

    // ---- realms, acts

    public int feed(long w, int n) {
        if (outside(n, 1, Tape.WORD)) {
            return BAD;
        }
        if (tape.length + n > Tape.ROOM) {
            return FULL;
        }
        tape.append(w, n);
        return tape.length;
    }

    public int realm() {
        boolean faultless = reader.read(draft);
        tape.empty();
        if (!faultless) {
            latestFault = reader.faultNumber;
            return FAULTS - reader.faultPlace;
        }
        // The old realm's rows serve for the next text that is read.
        Realm before = kingdom;
        kingdom = draft;
        draft = before;
        acts.forgetAll();
        return kingdom.coins;
    }

    public int fault() {
        return latestFault;
    }

    public int pass(int coin, int holder) {
        if (noCoin(coin) || outside(holder, 0, kingdom.holders - 1)) {
            return BAD;
        }
        int had = kingdom.about(coin, Realm.HOLDER);
        if (holder == had) {
            return BAD;
        }
        if (!kingdom.withHolder(coin) || kingdom.towns[holder] != kingdom.towns[had]) {
            return STATE;
        }
        acts.keep(kingdom.changing);
        kingdom.put(coin, Realm.HOLDER, holder);
        return had;
    }

    public int send(int coin) {
        if (noCoin(coin)) {
            return BAD;
        }
        if (!kingdom.canGoHome(coin)) {
            return STATE;
        }
        return sendKept(coin);
    }

    public int sendAll(int row, int i, int n) {
        if (!kingdom.told) {
            return STATE;
        }
        if (noRow(row) || outside(n, 1, Realm.MOST_COINS)) {
            return BAD;
        }
        Row r = rows[row];
        if (r.missing()) {
            return found(NULL_FOUND);
        }
        if (!r.holds(i, n)) {
            return found(PLACE_FOUND);
        }
        for (int p = i; p < i + n; p++) {
            if (noCoin(r.items[p])) {
                return BAD;
            }
        }
        int sent = 0;
        for (int p = i; p < i + n; p++) {
            if (kingdom.canGoHome(r.items[p])) {
                sendKept(r.items[p]);
                sent++;
            }
        }
        return answered(sent);
    }

    public int days(int n) {
        if (!kingdom.told) {
            return STATE;
        }
        if (outside(n, 1, 99)) {
            return BAD;
        }
        if (kingdom.today() + n > LAST_DAY) {
            return FULL;
        }
        acts.keep(kingdom.changing);
        int fell = 0;
        for (int d = 0; d < n; d++) {
            fell |= kingdom.liveDay();
        }
        return fell;
    }

    public int flood(int seed) {
        if (!kingdom.told) {
            return STATE;
        }
        if (outside(seed, 1, 999999)) {
            return BAD;
        }
        acts.keep(kingdom.changing);
        return kingdom.holdUp(seed);
    }

    public int undo() {
        if (acts.kept == 0) {
            return STATE;
        }
        acts.takeBack(kingdom.changing);
        return acts.kept;
    }

    public int coin(int coin, int what) {
        if (noCoin(coin) || outside(what, 0, 7)) {
            return BAD;
        }
        switch (what) {
            case 5:
                return kingdom.spanOf(coin);
            case 6:
                return kingdom.slackOf(coin);
            case 7:
                return kingdom.worthOf(coin);
            default:
                return kingdom.about(coin, what);
        }
    }

    public int far(int a, int b) {
        if (!kingdom.told) {
            return STATE;
        }
        if (outside(a, 0, Realm.TOWNS - 1) || outside(b, 0, Realm.TOWNS - 1)) {
            return BAD;
        }
        return kingdom.distance(a, b);
    }

    // ---- foretold

    public int late() {
        if (!kingdom.told) {
            return STATE;
        }
        return kingdom.lateCoins();
    }

    public int mustGo(int n) {
        if (!kingdom.told) {
            return STATE;
        }
        if (outside(n, 1, 400)) {
            return BAD;
        }
        return kingdom.coinsToGo(n);
    }

    public int save(int k) {
        if (!kingdom.told) {
            return STATE;
        }
        if (outside(k, 0, Realm.MOST_COINS)) {
            return BAD;
        }
        return kingdom.coinsForMessengers(k);
    }

    public int tour(int holders, int k) {
        if (!kingdom.told) {
            return STATE;
        }
        if (outside(holders, 1, (1 << kingdom.holders) - 1) || k < -2) {
            return BAD;
        }
        int length = carrier.plan(kingdom, holders);
        if (length == NONE) {
            return NONE;
        }
        if (k == -2) {
            return kingdom.savedByTour(holders, length);
        }
        return k == -1 ? length : carrier.stop(k);
    }

    public int mint(int what) {
        if (!kingdom.told) {
            return STATE;
        }
        if (outside(what, 0, 1)) {
            return BAD;
        }
        int town = kingdom.bestSecondMint();
        return what == 0 ? town : kingdom.lateWithMint(town);
    }

    public int sounds(int town, int n) {
        if (!kingdom.told) {
            return STATE;
        }
        if (outside(town, 0, Realm.TOWNS - 1) || outside(n, 0, 400)) {
            return BAD;
        }
        return kingdom.soundingIn(town, n);
    }

    public int ear(int f, int e, int n, int k, int what) {
        if (outside(f, 0, 10) || outside(e, 0, 10) || outside(n, 0, 3) || outside(k, 0, n)
                || outside(what, 0, 1)) {
            return BAD;
        }
        int forged = f * power(10 - e, k) * power(e, n - k);
        int genuine = (10 - f) * power(e, k) * power(10 - e, n - k);
        if (forged == 0) {
            return what == 0 ? 0 : 1;
        }
        int common = commonDivisor(forged, forged + genuine);
        return (what == 0 ? forged : forged + genuine) / common;
    }

    public int image(int k) {
        if (outside(k, 0, IMAGES - 1)) {
            return BAD;
        }
        if (!kingdom.told) {
            return STATE;
        }
        images[k].takeFrom(kingdom);
        return 1;
    }

    public int restore(int k) {
        if (outside(k, 0, IMAGES - 1)) {
            return BAD;
        }
        if (!images[k].told) {
            return STATE;
        }
        kingdom.takeFrom(images[k]);
        acts.forgetAll();
        return 1;
    }

    // ---- asked

    public int kind(int coin) {
        if (noCoin(coin)) {
            return BAD;
        }
        return kingdom.kinds[coin];
    }

    public int as(int coin, int kind) {
        if (noCoin(coin) || outside(kind, 0, Kinds.LAST)) {
            return BAD;
        }
        if (!Kinds.isOne(kingdom.kinds[coin], kind)) {
            return found(KIND_FOUND);
        }
        return answered(coin);
    }

    public int ask(int coin, int what) {
        if (noCoin(coin) || outside(what, 0, 1)) {
            return BAD;
        }
        return asker.answer(kingdom, coin, what);
    }

    public int trace(int i) {
        return asker.noted(i);
    }

    public int count(int what) {
        switch (what) {
            case 0:
                return rowsThere();
            case 1:
                return kingdom.holders;
            case 2:
                return kingdom.coins;
            case 3:
                return kingdom.today();
            case 4:
                return acts.kept;
            case 5:
                return kingdom.howMany(Realm.DUMB, 1);
            case 6:
                return kingdom.howMany(Realm.WHERE, Realm.LOST);
            case 7:
                return tape.length;
            default:
                return BAD;
        }
    }

    public int status() {
        return latestFinding;
    }

    private int sendKept(int coin) {
        acts.keep(kingdom.changing);
        return kingdom.startHome(coin);
    }

    private int rowsThere() {
        int there = 0;
        for (int r = 0; r < ROWS; r++) {
            if (!rows[r].missing()) {
                there++;
            }
        }
        return there;
    }

    private boolean noCoin(int coin) {
        return outside(coin, 0, kingdom.coins - 1);
    }

    private int found(int finding) {
        latestFinding = finding;
        return FINDINGS - finding;
    }

    private int answered(int answer) {
        latestFinding = NO_FINDING;
        return answer;
    }

    private static boolean noRow(int row) {
        return outside(row, 0, ROWS - 1);
    }

    private static boolean outside(int v, int least, int most) {
        return v < least || v > most;
    }

    private static int power(int base, int exponent) {
        int p = 1;
        for (int i = 0; i < exponent; i++) {
            p *= base;
        }
        return p;
    }

    /** Of two numbers above 0; so the answer may always divide. */
    private static int commonDivisor(int a, int b) {
        int x = a;
        int y = b;
        for (int step = 0; step < 100 && y != 0; step++) {
            int rest = x % y;
            x = y;
            y = rest;
        }
        return Math.max(x, 1);
    }

    /** A row of items of one lane, or none. */
    private static final class Row {
        static final int BYTES = 0, SHORTS = 1, INTS = 2, ROOM = 40;
        private static final int MISSING = -1;

        final int[] items = new int[ROOM];
        int lane = MISSING;
        int size = 0;

        boolean missing() {
            return lane == MISSING;
        }

        void lay(int newLane, int n) {
            Arrays.fill(items, 0);
            lane = newLane;
            size = n;
        }

        void takeAway() {
            lane = MISSING;
            size = 0;
        }

        /** As long: a place and a length may be beyond an int together. */
        boolean holds(int i, int n) {
            return i >= 0 && n >= 0 && (long) i + n <= size;
        }

        int put(int i, int v) {
            int kept = v;
            if (lane == BYTES) {
                kept = (byte) v;
            } else if (lane == SHORTS) {
                kept = (short) v;
            }
            items[i] = kept;
            return kept;
        }
    }

    /** The bytes that were fed, and the token of them that is looked at. */
    private static final class Tape {
        static final int ROOM = 500, WORD = 8;
        static final int END = 0, NAME = 1, NUMBER = 2, SIGN = 3, NO_TOKEN = 4, GAP = 5;
        private static final int MOST_FIGURES = 3;

        private final byte[] bytes = new byte[ROOM];
        int length = 0;
        int sort = END;
        int start = 0;
        int number = 0;
        private int end = 0;

        void append(long w, int n) {
            for (int i = n - 1; i >= 0; i--) {
                bytes[length] = (byte) (w >>> (8 * i));
                length++;
            }
        }

        void empty() {
            length = 0;
        }

        void rewind() {
            end = 0;
            step();
        }

        /** Goes on to the next token. */
        void step() {
            start = end;
            while (start < length && sortOfByte(start) == GAP) {
                start++;
            }
            end = start;
            sort = start < length ? sortOfByte(start) : END;
            if (sort == NAME || sort == NUMBER) {
                while (end < length && sortOfByte(end) == sort) {
                    end++;
                }
            } else if (sort != END) {
                end++;
            }
            if (sort == NUMBER) {
                weighFigures();
            }
        }

        boolean isWord(String word) {
            if (sort != NAME || end - start != word.length()) {
                return false;
            }
            for (int i = 0; i < word.length(); i++) {
                if (bytes[start + i] != word.charAt(i)) {
                    return false;
                }
            }
            return true;
        }

        private void weighFigures() {
            if (end - start > MOST_FIGURES) {
                sort = NO_TOKEN;
                return;
            }
            number = 0;
            for (int i = start; i < end; i++) {
                number = number * 10 + (bytes[i] - '0');
            }
        }

        private int sortOfByte(int i) {
            int b = bytes[i];
            if (b >= 'a' && b <= 'z') {
                return NAME;
            }
            if (b >= '0' && b <= '9') {
                return NUMBER;
            }
            if (b == ' ' || b == 10) {
                return GAP;
            }
            return b == ';' ? SIGN : NO_TOKEN;
        }
    }

    /** Reads a realm from its tape, up to the first fault. */
    private static final class Reader {
        private static final int CANNOT_STAND = 1, NOT_AS_TOLD = 2, NO_ROOM = 3;
        private static final int MOST_ROADS = 14, MOST_LEAVE = 400, MOST_DAYS = 90, MOST_AGE = 400;

        final Tape text = new Tape();
        private int taken = 0;
        int faultNumber = 0;
        int faultPlace = 0;

        /** Whether there is no fault: else the realm is left half read. */
        boolean read(Realm into) {
            into.clear();
            text.rewind();
            if (!(readLaw(into) && readRoads(into) && readHolders(into) && readCoins(into))) {
                return false;
            }
            if (text.sort != Tape.END) {
                return faulty(CANNOT_STAND);
            }
            into.shortenWays();
            into.told = true;
            return true;
        }

        private boolean readLaw(Realm into) {
            if (!text.isWord("law")) {
                return faulty(CANNOT_STAND);
            }
            text.step();
            if (!takeNumber(1, MOST_LEAVE)) {
                return false;
            }
            into.leave = taken;
            return takeSign();
        }

        private boolean readRoads(Realm into) {
            for (int n = 0; n <= MOST_ROADS && text.isWord("road"); n++) {
                if (n == MOST_ROADS) {
                    return faulty(NO_ROOM);
                }
                text.step();
                if (!readRoad(into)) {
                    return false;
                }
            }
            return true;
        }

        private boolean readRoad(Realm into) {
            if (!takeNumber(0, Realm.TOWNS - 1)) {
                return false;
            }
            int a = taken;
            if (text.sort == Tape.NUMBER && text.number == a) {
                return faulty(NOT_AS_TOLD);
            }
            if (!takeNumber(0, Realm.TOWNS - 1)) {
                return false;
            }
            int b = taken;
            if (!takeNumber(1, MOST_DAYS)) {
                return false;
            }
            into.addRoad(a, b, taken);
            return takeSign();
        }

        private boolean readHolders(Realm into) {
            for (int n = 0; n <= Realm.MOST_HOLDERS && text.isWord("holder"); n++) {
                if (n == Realm.MOST_HOLDERS) {
                    return faulty(NO_ROOM);
                }
                text.step();
                if (!takeNumber(1, Realm.TOWNS - 1)) {
                    return false;
                }
                into.addHolder(taken);
                if (!takeSign()) {
                    return false;
                }
            }
            return true;
        }

        private boolean readCoins(Realm into) {
            for (int n = 0; n <= Realm.MOST_COINS && text.isWord("coin"); n++) {
                if (n == Realm.MOST_COINS) {
                    return faulty(NO_ROOM);
                }
                text.step();
                if (!readCoin(into)) {
                    return false;
                }
            }
            return true;
        }

        private boolean readCoin(Realm into) {
            int kindTold = kindOfWord();
            if (kindTold == Kinds.COIN) {
                return faulty(CANNOT_STAND);
            }
            text.step();
            if (!takeNumber(0, into.holders - 1)) {
                return false;
            }
            int holder = taken;
            if (!takeNumber(0, MOST_AGE)) {
                return false;
            }
            into.addCoin(kindTold, holder, taken);
            return takeSign();
        }

        /** COIN, which no word tells, stands for a token that is no sort. */
        private int kindOfWord() {
            if (text.isWord("gold")) {
                return Kinds.GOLD;
            }
            if (text.isWord("silver")) {
                return Kinds.SILVER;
            }
            if (text.isWord("copper")) {
                return Kinds.COPPER;
            }
            if (text.isWord("forged")) {
                return Kinds.FORGED;
            }
            return text.isWord("old") ? Kinds.OLD : Kinds.COIN;
        }

        private boolean takeNumber(int least, int most) {
            if (text.sort != Tape.NUMBER) {
                return faulty(CANNOT_STAND);
            }
            if (outside(text.number, least, most)) {
                return faulty(NOT_AS_TOLD);
            }
            taken = text.number;
            text.step();
            return true;
        }

        private boolean takeSign() {
            if (text.sort != Tape.SIGN) {
                return faulty(CANNOT_STAND);
            }
            text.step();
            return true;
        }

        private boolean faulty(int number) {
            faultNumber = number;
            faultPlace = text.start;
            return false;
        }
    }

    /** Which kind of coin is which other, too. */
    private static final class Kinds {
        static final int COIN = 0, SILVER = 1, GOLD = 2, COPPER = 3, OLD = 4, FORGED = 5, LAST = 5;
        static final int NO_KIND = -1;
        private static final int[] NEXT = {NO_KIND, COIN, SILVER, SILVER, COPPER, COIN};

        static int nextOf(int k) {
            return outside(k, 0, LAST) ? NO_KIND : NEXT[k];
        }

        static boolean isOne(int own, int wanted) {
            int k = own;
            for (int step = 0; step <= LAST && k != NO_KIND; step++) {
                if (k == wanted) {
                    return true;
                }
                k = nextOf(k);
            }
            return false;
        }
    }

    /** A kingdom: what its text told, and what changes in it from day to day. */
    private static final class Realm {
        static final int TOWNS = 8, MOST_HOLDERS = 6, MOST_COINS = 12;
        /** What changes of a coin, in the order in which the document numbers it. */
        static final int HOLDER = 0, AGE = 1, WHERE = 2, LEFT = 3, DUMB = 4;
        static final int WITH_HOLDER = 0, HOMEWARD = 1, OUTWARD = 2, LOST = 3;
        /** The numbers that change: those of the coins, and behind them the day. */
        static final int CHANGING = 61;
        private static final int FIELDS = 5, DAY = 60, MINT = 0, NO_WAY = 1000000;

        final int[] ways = new int[TOWNS * TOWNS];
        final int[] towns = new int[MOST_HOLDERS];
        final int[] kinds = new int[MOST_COINS];
        final int[] changing = new int[CHANGING];
        boolean told = false;
        int leave = 0;
        int holders = 0;
        int coins = 0;

        void clear() {
            Arrays.fill(ways, NO_WAY);
            for (int t = 0; t < TOWNS; t++) {
                ways[t * TOWNS + t] = 0;
            }
            Arrays.fill(changing, 0);
            told = false;
            leave = 0;
            holders = 0;
            coins = 0;
        }

        void takeFrom(Realm other) {
            System.arraycopy(other.ways, 0, ways, 0, TOWNS * TOWNS);
            System.arraycopy(other.towns, 0, towns, 0, MOST_HOLDERS);
            System.arraycopy(other.kinds, 0, kinds, 0, MOST_COINS);
            System.arraycopy(other.changing, 0, changing, 0, CHANGING);
            told = other.told;
            leave = other.leave;
            holders = other.holders;
            coins = other.coins;
        }

        void addRoad(int a, int b, int length) {
            int shortest = Math.min(ways[a * TOWNS + b], length);
            ways[a * TOWNS + b] = shortest;
            ways[b * TOWNS + a] = shortest;
        }

        void addHolder(int town) {
            if (holders < MOST_HOLDERS) {
                towns[holders] = town;
                holders++;
            }
        }

        void addCoin(int kindTold, int holder, int age) {
            if (coins < MOST_COINS) {
                kinds[coins] = kindTold;
                put(coins, HOLDER, holder);
                put(coins, AGE, age);
                coins++;
            }
        }

        /** Makes roads into ways: over each town in turn. */
        void shortenWays() {
            for (int over = 0; over < TOWNS; over++) {
                for (int a = 0; a < TOWNS; a++) {
                    for (int b = 0; b < TOWNS; b++) {
                        int around = ways[a * TOWNS + over] + ways[over * TOWNS + b];
                        ways[a * TOWNS + b] = Math.min(ways[a * TOWNS + b], around);
                    }
                }
            }
        }

        int distance(int a, int b) {
            int way = ways[a * TOWNS + b];
            return way >= NO_WAY ? NONE : way;
        }

        int about(int c, int field) {
            return changing[c * FIELDS + field];
        }

        void put(int c, int field, int v) {
            changing[c * FIELDS + field] = v;
        }

        int today() {
            return changing[DAY];
        }

        int townOf(int c) {
            return towns[about(c, HOLDER)];
        }

        boolean withHolder(int c) {
            return about(c, WHERE) == WITH_HOLDER;
        }

        boolean underWay(int c) {
            return about(c, WHERE) == HOMEWARD || about(c, WHERE) == OUTWARD;
        }

        boolean forged(int c) {
            return kinds[c] == Kinds.FORGED;
        }

        boolean dumb(int c) {
            return about(c, DUMB) == 1;
        }

        int howMany(int field, int v) {
            int n = 0;
            for (int c = 0; c < coins; c++) {
                if (about(c, field) == v) {
                    n++;
                }
            }
            return n;
        }

        boolean canGoHome(int c) {
            return withHolder(c) && distance(townOf(c), MINT) != NONE;
        }

        int startHome(int c) {
            int way = distance(townOf(c), MINT);
            put(c, WHERE, HOMEWARD);
            put(c, LEFT, way);
            return way;
        }

        /** A day goes by: which coins fell dumb. */
        int liveDay() {
            changing[DAY]++;
            int fell = 0;
            for (int c = 0; c < coins; c++) {
                if (!dumb(c) && about(c, WHERE) != LOST) {
                    put(c, AGE, about(c, AGE) + 1);
                }
                if (underWay(c)) {
                    travel(c);
                }
                if (!dumb(c) && !forged(c) && about(c, AGE) > spanOf(c)) {
                    put(c, DUMB, 1);
                    fell |= 1 << c;
                }
            }
            return fell;
        }

        private void travel(int c) {
            put(c, LEFT, about(c, LEFT) - 1);
            if (about(c, LEFT) > 0) {
                return;
            }
            if (about(c, WHERE) == OUTWARD) {
                put(c, WHERE, WITH_HOLDER);
            } else if (dumb(c) || forged(c)) {
                put(c, WHERE, LOST);
            } else {
                put(c, AGE, 0);
                put(c, WHERE, OUTWARD);
                put(c, LEFT, distance(MINT, townOf(c)));
            }
        }

        /** A flood: how many coins it held up. */
        int holdUp(int seed) {
            long x = seed;
            int held = 0;
            for (int c = 0; c < coins; c++) {
                if (underWay(c)) {
                    x = x * 16807 % 2147483647;
                    int more = (int) (x % 10);
                    put(c, LEFT, about(c, LEFT) + more);
                    held += more > 0 ? 1 : 0;
                }
            }
            return held;
        }

        int spanOf(int c) {
            if (kinds[c] == Kinds.OLD) {
                return leave / 2;
            }
            return kinds[c] == Kinds.GOLD ? leave + leave / 2 : leave;
        }

        int slackOf(int c) {
            return slackWithMint(c, MINT);
        }

        /** With a second mint in a town, that counts for coins with holders alone. */
        int slackWithMint(int c, int second) {
            if (dumb(c) || forged(c)) {
                return NONE;
            }
            int need = about(c, LEFT);
            int way = ways[townOf(c) * TOWNS + MINT];
            if (withHolder(c)) {
                need = Math.min(way, ways[townOf(c) * TOWNS + second]);
            } else if (about(c, WHERE) == OUTWARD) {
                need += way;
            }
            return need >= NO_WAY ? NONE : spanOf(c) - about(c, AGE) - need;
        }

        private static boolean isLate(int slack) {
            return slack != NONE && slack < 0;
        }

        int worthOf(int c) {
            int slack = slackOf(c);
            int span = spanOf(c);
            return slack <= 0 || span <= 0 ? 0 : 100 * slack / span;
        }

        int lateCoins() {
            int bits = 0;
            for (int c = 0; c < coins; c++) {
                if (isLate(slackOf(c))) {
                    bits |= 1 << c;
                }
            }
            return bits;
        }

        /** NONE for those that are not with holders: they cannot be taken home now. */
        private int slackAtHolder(int c) {
            return withHolder(c) ? slackWithMint(c, MINT) : NONE;
        }

        int coinsToGo(int n) {
            int bits = 0;
            for (int c = 0; c < coins; c++) {
                int slack = slackAtHolder(c);
                if (slack >= 0 && slack < n) {
                    bits |= 1 << c;
                }
            }
            return bits;
        }

        int coinsForMessengers(int messengers) {
            int bits = 0;
            for (int m = 0; m < messengers; m++) {
                bits |= mostPressing(bits);
            }
            return bits;
        }

        /** The bit of the coin of least slack that is not among those taken; 0: there is none. */
        private int mostPressing(int takenBits) {
            int best = 0;
            int least = NO_WAY;
            for (int c = 0; c < coins; c++) {
                int slack = slackAtHolder(c);
                if ((takenBits >> c & 1) == 0 && slack >= 0 && slack < least) {
                    least = slack;
                    best = 1 << c;
                }
            }
            return best;
        }

        int savedByTour(int holderBits, int length) {
            int saved = 0;
            for (int c = 0; c < coins; c++) {
                boolean taken = withHolder(c) && (holderBits >> about(c, HOLDER) & 1) == 1;
                if (taken && !forged(c) && !dumb(c) && spanOf(c) >= about(c, AGE) + length) {
                    saved++;
                }
            }
            return saved;
        }

        int bestSecondMint() {
            int best = 1;
            for (int town = 2; town < TOWNS; town++) {
                if (lateWithMint(town) < lateWithMint(best)) {
                    best = town;
                }
            }
            return best;
        }

        int lateWithMint(int town) {
            int n = 0;
            for (int c = 0; c < coins; c++) {
                if (isLate(slackWithMint(c, town))) {
                    n++;
                }
            }
            return n;
        }

        int soundingIn(int town, int n) {
            int sounding = 0;
            for (int c = 0; c < coins; c++) {
                if (withHolder(c) && townOf(c) == town && soundsAfter(c, n)) {
                    sounding++;
                }
            }
            return sounding;
        }

        /** A coin falls dumb at the end of a day alone: in 0 days none does, however old. */
        private boolean soundsAfter(int c, int n) {
            if (dumb(c)) {
                return false;
            }
            return forged(c) || n == 0 || about(c, AGE) + n <= spanOf(c);
        }
    }

    /** The latest acts, each kept as what could change was before it. */
    private static final class Acts {
        private static final int ROOM = 24;

        private final int[][] before = new int[ROOM][Realm.CHANGING];
        private int next = 0;
        int kept = 0;

        void keep(int[] changing) {
            System.arraycopy(changing, 0, before[next], 0, Realm.CHANGING);
            next = (next + 1) % ROOM;
            kept = Math.min(kept + 1, ROOM);
        }

        void takeBack(int[] changing) {
            next = (next + ROOM - 1) % ROOM;
            System.arraycopy(before[next], 0, changing, 0, Realm.CHANGING);
            kept--;
        }

        void forgetAll() {
            next = 0;
            kept = 0;
        }
    }

    /** A carrier who goes from the mint to holders and home by a shortest way. */
    private static final class Carrier {
        private final int[] order = new int[Realm.MOST_HOLDERS];
        private final int[] path = new int[Realm.MOST_HOLDERS];
        private int stops = 0;
        private int fewest = NONE;

        /** The days of the tour; NONE: there is no way. */
        int plan(Realm land, int holderBits) {
            stops = Integer.bitCount(holderBits);
            fewest = NONE;
            goOn(land, holderBits, Realm.MINT, 0, 0);
            return fewest;
        }

        int stop(int k) {
            return outside(k, 0, stops - 1) ? NONE : order[k];
        }

        /** Orders are tried by their numbers, so that of like ones the first stays. */
        private void goOn(Realm land, int leftBits, int town, int gone, int depth) {
            if (depth >= stops || depth >= Realm.MOST_HOLDERS) {
                comeHome(gone, land.distance(town, Realm.MINT));
                return;
            }
            for (int h = 0; h < land.holders; h++) {
                int way = land.distance(town, land.towns[h]);
                if ((leftBits >> h & 1) == 1 && way != NONE) {
                    path[depth] = h;
                    goOn(land, leftBits & ~(1 << h), land.towns[h], gone + way, depth + 1);
                }
            }
        }

        private void comeHome(int gone, int way) {
            if (way != NONE && (fewest == NONE || gone + way < fewest)) {
                fewest = gone + way;
                System.arraycopy(path, 0, order, 0, Realm.MOST_HOLDERS);
            }
        }
    }

    /** Asks a coin by bodies, and notes which of them began. */
    private static final class Asker {
        private static final int SIZE = 0, MARK = 1, NO_BODY = 0, NOTES = 16, DEEPEST = 40;
        /** By kinds; what stands for COIN is lent to all. */
        private static final int[] SIZE_BODIES = {10, 11, 12, NO_BODY, 14, 13};
        private static final int[] MARK_BODIES = {20, 21, NO_BODY, 22, 24, 23};

        private final int[] notes = new int[NOTES];
        private int begun = 0;
        private int number = 0;
        private int kindAsked = 0;
        private int age = 0;
        private int span = 0;

        int answer(Realm realm, int c, int what) {
            begun = 0;
            number = c;
            kindAsked = realm.kinds[c];
            age = realm.about(c, Realm.AGE);
            span = realm.spanOf(c);
            return begin(bodyFor(what), 0);
        }

        int noted(int i) {
            return outside(i, 0, begun - 1) ? NONE : notes[i];
        }

        private int bodyFor(int what) {
            int[] bodies = what == SIZE ? SIZE_BODIES : MARK_BODIES;
            int k = kindAsked;
            for (int step = 0; step < Kinds.LAST && bodies[k] == NO_BODY; step++) {
                k = Math.max(Kinds.nextOf(k), Kinds.COIN);
            }
            return bodies[k];
        }

        /** The bodies form no ring, so the guard on the depth never answers. */
        private int begin(int body, int depth) {
            if (depth > DEEPEST) {
                return 0;
            }
            note(body);
            int deeper = depth + 1;
            switch (body) {
                case 10:
                    return age;
                case 11:
                    return begin(10, deeper) + begin(bodyFor(MARK), deeper);
                case 12:
                    return -begin(11, deeper);
                case 13:
                    return begin(10, deeper) - 100;
                case 14:
                    return 2 * begin(11, deeper);
                case 20:
                    return number;
                case 21:
                    return begin(20, deeper) + span;
                case 22:
                    return begin(21, deeper) - 1000;
                case 23:
                    return begin(20, deeper) - begin(bodyFor(SIZE), deeper);
                case 24:
                    return 2 * begin(22, deeper);
                default:
                    return 0;
            }
        }

        private void note(int body) {
            if (begun < NOTES) {
                notes[begun] = body;
                begun++;
            }
        }
    }
}
