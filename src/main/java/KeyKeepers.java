import java.util.Arrays;

/** A key that is kept by one at a time, by one of three ways, and all that is told of it. */
public final class KeyKeepers {
    public static final int BAD = -1, NO = -2, FULL = -3, NONE = -4, SPENT = -5;

    private static final int ASKING = 0, TOKEN = 1, TREE = 2;
    private static final int IDLE = 0, WAITS = 1, IN = 2;
    private static final int ASKED = 0, GIVEN = 1, PASSED = 2, KINDS = 3;

    private static final int FEWEST = 2;
    private static final int MOST_BEGINS = 10;
    private static final int MOST_PASSES = 15;
    private static final int MOST_RUN = 100;

    private final Stand stand;
    private final Book book;
    private final Ways ways;
    private final Past past;
    private final Search search;
    private int begins;
    private int passes;
    private boolean acted;

    public KeyKeepers() {
        stand = new Stand();
        book = new Book();
        ways = new Ways(stand, book);
        past = new Past(stand);
        search = new Search(stand, ways);
        stand.startAnew(ASKING, FEWEST);
    }

    public int begin(int way, int n) {
        if (way < ASKING || way > TREE || n < FEWEST || n > Stand.MOST) {
            return BAD;
        }
        if (begins >= MOST_BEGINS) {
            return FULL;
        }
        begins++;
        passes = 0;
        acted = false;
        past.forget();
        stand.startAnew(way, n);
        return n;
    }

    public int parent(int i, int p) {
        if (i < 1 || i >= stand.n || p < 0 || p >= i) {
            return BAD;
        }
        if (stand.way != TREE || acted) {
            return NO;
        }
        int was = stand.of(i, Stand.PARENT);
        stand.set(i, Stand.PARENT, p);
        // Without an act since begin() all other holders still are as at first.
        stand.set(i, Stand.HOLDER, p);
        return was;
    }

    public int want(int i) {
        if (!stand.isKeeper(i)) {
            return BAD;
        }
        if (stand.of(i, Stand.MODE) != IDLE) {
            return NO;
        }
        past.mark();
        ways.wanted(i);
        if (!settled()) {
            return FULL;
        }
        return stand.of(i, Stand.MODE) == IN ? 1 : 0;
    }

    public int leave(int i) {
        if (!stand.isKeeper(i)) {
            return BAD;
        }
        if (stand.of(i, Stand.MODE) != IN) {
            return NO;
        }
        int before = stand.sentInAll();
        past.mark();
        ways.left(i);
        if (!settled()) {
            return FULL;
        }
        return stand.sentInAll() - before;
    }

    public int come(int i, int j) {
        if (!stand.isPair(i, j)) {
            return BAD;
        }
        if (stand.underWay(i, j) == 0) {
            return NO;
        }
        return bring(i, j);
    }

    public int run(int k, int seed) {
        if (k < 1 || k > MOST_RUN || seed < 0) {
            return BAD;
        }
        long drawn = seed;
        for (int came = 0; came < k; came++) {
            int pairs = stand.busyPairs();
            if (pairs <= 0) {
                return came;
            }
            int pair = stand.busyPair((int) (drawn % pairs));
            if (bring(pair / Stand.MOST, pair % Stand.MOST) == FULL) {
                return came;
            }
            drawn = (drawn * 1103515245L + 12345L) % 2147483648L / 8L;
        }
        return k;
    }

    public int keeper(int i, int what) {
        if (!stand.isKeeper(i)) {
            return BAD;
        }
        boolean asking = stand.way == ASKING;
        boolean tree = stand.way == TREE;
        switch (what) {
            case 0: return stand.of(i, Stand.MODE);
            case 1: return asking ? stand.of(i, Stand.CLOCK) : 0;
            case 2: return timeOf(i);
            case 3: return asking ? ways.stillToCome(i) : 0;
            case 4: return asking ? stand.of(i, Stand.OFF) : 0;
            case 5: return stand.hasToken(i) ? 1 : 0;
            case 6: return tree ? stand.of(i, Stand.HOLDER) : NONE;
            case 7: return tree ? stand.of(i, Stand.HAS_ASKED) : 0;
            case 8: return tree ? stand.get(Stand.queueOf(i)) : 0;
            case 9: return tree && i > 0 ? stand.of(i, Stand.PARENT) : NONE;
            default: return BAD;
        }
    }

    public int knows(int i, int j) {
        // NONE stands before BAD here, other than elsewhere: i and j name the place together, so whatever is
        // wrong with one of them, there is no such place.
        if (stand.way == ASKING || !stand.isKeeper(i)) {
            return NONE;
        }
        if (stand.way == TOKEN) {
            return stand.isKeeper(j) ? stand.known(i, j) : NONE;
        }
        int queue = Stand.queueOf(i);
        return j >= 0 && j < stand.get(queue) ? stand.get(queue + 1 + j) : NONE;
    }

    public int token(int what, int k) {
        // A place that the ROW could not have, for want of keepers, is BAD like a keeper that there is not.
        if (what < 0 || what > 1 || !stand.isKeeper(k)) {
            return BAD;
        }
        if (stand.way != TOKEN) {
            return NO;
        }
        if (what == 0) {
            return stand.get(Stand.STANDS + k);
        }
        return k < stand.get(Stand.ROW) ? stand.get(Stand.ROW + 1 + k) : NONE;
    }

    public int letter(int i, int j, int k, int what) {
        if (!stand.isPair(i, j) || k < -1 || what < 0 || what > 1) {
            return BAD;
        }
        int many = stand.underWay(i, j);
        if (k == -1) {
            return many;
        }
        if (k >= many) {
            return NONE;
        }
        int letter = stand.letterAt(i, j, k);
        return what == 0 ? Stand.kindOf(letter) : Stand.numberOf(letter);
    }

    public int entry(int i, int what) {
        if (i < 0 || what < 0 || what >= Book.PART) {
            return BAD;
        }
        int ever = stand.get(Stand.ENTRIES);
        if (i >= ever || i >= Book.MOST_TOLD) {
            return NONE;
        }
        return book.read(ever - 1 - i, what);
    }

    public int undo() {
        return past.takeBack() ? 1 : NO;
    }

    public int pass() {
        if (passes >= MOST_PASSES) {
            return FULL;
        }
        passes++;
        return search.goThrough();
    }

    public int passed(int what) {
        if (what < 0 || what >= search.told.length) {
            return BAD;
        }
        return search.told[what];
    }

    public int count(int what) {
        switch (what) {
            case 0: return stand.n;
            case 1: return stand.way;
            case 2: return stand.get(Stand.ENTRIES);
            case 3: return stand.get(Stand.SENT + ASKED);
            case 4: return stand.get(Stand.SENT + GIVEN);
            case 5: return stand.get(Stand.SENT + PASSED);
            case 6: return stand.underWayInAll();
            case 7: return stand.howMany(IN);
            case 8: return stand.howMany(WAITS);
            case 9: return past.kept;
            default: return BAD;
        }
    }

    private int timeOf(int i) {
        if (stand.way == ASKING) {
            return stand.of(i, Stand.TIME);
        }
        return stand.way == TOKEN ? stand.known(i, i) : 0;
    }

    /** Brings the eldest letter from i to j, as an act: its kind, or FULL. */
    private int bring(int i, int j) {
        int kind = Stand.kindOf(stand.letterAt(i, j, 0));
        past.mark();
        ways.coming(i, j);
        return settled() ? kind : FULL;
    }

    /** Ends an act: it is kept if all its letters found room, and else undone as if it had not been. */
    private boolean settled() {
        if (stand.tooMany) {
            past.backToMark();
            return false;
        }
        past.keepMark();
        acted = true;
        return true;
    }

    /**
     * What keepers, letters and the token have, then the counts: all in one row,
     * so that it is copied, kept and taken back at once.
     * A field stands there for all keepers, one behind the other, first the MODE and then
     * the fields of each way, so that only those of the way that there is need be compared.
     * A list in the row is its length and, behind it, its places.
     */
    private static final class Stand {
        static final int MOST = 6;
        static final int MOST_UNDER_WAY = 12;

        static final int MODE = 0;

        static final int CLOCK = MODE + MOST;
        static final int TIME = CLOCK + MOST;
        static final int GAVE = TIME + MOST;
        static final int OFF = GAVE + MOST;

        static final int PLACE = OFF + MOST;
        static final int STANDS = PLACE + 1;
        static final int ROW = STANDS + MOST;
        private static final int KNOWN = ROW + 1 + MOST;

        static final int PARENT = KNOWN + MOST * MOST;
        static final int HOLDER = PARENT + MOST;
        static final int HAS_ASKED = HOLDER + MOST;
        private static final int QUEUES = HAS_ASKED + MOST;
        private static final int QUEUE_PART = 1 + MOST;

        private static final int LETTERS = QUEUES + MOST * QUEUE_PART;
        private static final int PAIR_PART = 1 + MOST_UNDER_WAY;

        static final int ALIKE = LETTERS + MOST * MOST * PAIR_PART;
        static final int SENT = ALIKE;
        static final int ENTRIES = SENT + KINDS;
        static final int WANTED_AT = ENTRIES + 1;
        static final int SIZE = WANTED_AT + MOST;

        final int[] row;
        int way;
        int n;
        /** Whether a letter of the latest act found no room. */
        boolean tooMany;

        Stand() {
            row = new int[SIZE];
        }

        static int kindOf(int letter) {
            return letter & 3;
        }

        static int numberOf(int letter) {
            return letter >> 2;
        }

        void startAnew(int newWay, int newN) {
            way = newWay;
            n = newN;
            Arrays.fill(row, 0);
            // By TOKEN the place of the token is 0, that of keeper 0; the other ways don't use it.
            for (int i = 1; i < n && way == TREE; i++) {
                set(i, PARENT, (i - 1) / 2);
                set(i, HOLDER, (i - 1) / 2);
            }
        }

        boolean isKeeper(int i) {
            return i >= 0 && i < n;
        }

        boolean isPair(int i, int j) {
            return isKeeper(i) && isKeeper(j) && i != j;
        }

        int get(int k) {
            return k >= 0 && k < row.length ? row[k] : 0;
        }

        void put(int k, int value) {
            if (k >= 0 && k < row.length) {
                row[k] = value;
            }
        }

        int of(int i, int field) {
            return get(field + i);
        }

        void set(int i, int field, int value) {
            put(field + i, value);
        }

        int known(int i, int j) {
            return get(KNOWN + i * MOST + j);
        }

        void setKnown(int i, int j, int times) {
            put(KNOWN + i * MOST + j, times);
        }

        static int queueOf(int i) {
            return QUEUES + i * QUEUE_PART;
        }

        /** Where the fields of the way begin. */
        int wayFrom() {
            return way == ASKING ? CLOCK : way == TOKEN ? PLACE : PARENT;
        }

        /** Behind the fields of the way. */
        int wayTo() {
            return way == ASKING ? PLACE : way == TOKEN ? PARENT : LETTERS;
        }

        /** Puts a value behind the list at k, if its most places leave room. */
        boolean append(int k, int most, int value) {
            if (k < 0 || k + most >= row.length) {
                return false;
            }
            int size = row[k];
            if (size < 0 || size >= most) {
                return false;
            }
            row[k + 1 + size] = value;
            row[k] = size + 1;
            return true;
        }

        /** Takes the first from the list at k, which must not be empty. */
        int takeFirst(int k, int most) {
            int size = get(k);
            int first = get(k + 1);
            if (size < 1 || size > most) {
                return first;
            }
            for (int place = 1; place < size; place++) {
                put(k + place, get(k + place + 1));
            }
            put(k + size, 0);
            put(k, size - 1);
            return first;
        }

        boolean rowHas(int i) {
            int size = get(ROW);
            for (int place = 0; place < size && place < MOST; place++) {
                if (get(ROW + 1 + place) == i) {
                    return true;
                }
            }
            return false;
        }

        static int lettersOf(int i, int j) {
            return LETTERS + (i * MOST + j) * PAIR_PART;
        }

        int underWay(int i, int j) {
            return get(lettersOf(i, j));
        }

        int letterAt(int i, int j, int k) {
            return get(lettersOf(i, j) + 1 + k);
        }

        /** Sends a letter; what finds no room is remembered, as the whole act is none then. */
        void send(int i, int j, int kind, int number) {
            if (!append(lettersOf(i, j), MOST_UNDER_WAY, number << 2 | kind)) {
                tooMany = true;
            }
            put(SENT + kind, get(SENT + kind) + 1);
        }

        void sendToOthers(int i, int kind, int number) {
            for (int j = 0; j < n; j++) {
                if (j != i) {
                    send(i, j, kind, number);
                }
            }
        }

        int takeLetter(int i, int j) {
            return takeFirst(lettersOf(i, j), MOST_UNDER_WAY);
        }

        int sentInAll() {
            return get(SENT + ASKED) + get(SENT + GIVEN) + get(SENT + PASSED);
        }

        int underWayInAll() {
            int all = 0;
            for (int i = 0; i < n; i++) {
                for (int j = 0; j < n; j++) {
                    all += underWay(i, j);
                }
            }
            return all;
        }

        int busyPairs() {
            int pairs = 0;
            for (int i = 0; i < n; i++) {
                for (int j = 0; j < n; j++) {
                    pairs += underWay(i, j) > 0 ? 1 : 0;
                }
            }
            return pairs;
        }

        /** The pair at a place among those with letters under way: sender times MOST, and who gets it. */
        int busyPair(int place) {
            int before = 0;
            for (int i = 0; i < n; i++) {
                for (int j = 0; j < n; j++) {
                    if (underWay(i, j) > 0 && before++ == place) {
                        return i * MOST + j;
                    }
                }
            }
            return 0;
        }

        int howMany(int mode) {
            int many = 0;
            for (int i = 0; i < n; i++) {
                many += of(i, MODE) == mode ? 1 : 0;
            }
            return many;
        }

        boolean hasToken(int i) {
            return way == TOKEN && get(PLACE) == i || way == TREE && of(i, HOLDER) == i;
        }

        /** Whether the token is with nobody and in no letter. */
        boolean tokenIsLost() {
            for (int i = 0; i < n; i++) {
                if (hasToken(i)) {
                    return false;
                }
                for (int j = 0; j < n; j++) {
                    if (tokenBetween(i, j)) {
                        return false;
                    }
                }
            }
            return way != ASKING;
        }

        private boolean tokenBetween(int i, int j) {
            int many = underWay(i, j);
            for (int k = 0; k < many && k < MOST_UNDER_WAY; k++) {
                if (kindOf(letterAt(i, j, k)) == PASSED) {
                    return true;
                }
            }
            return false;
        }

        void copyTo(int[] rows, int at, int length) {
            if (at >= 0 && length >= 0 && length <= row.length && at <= rows.length - length) {
                System.arraycopy(row, 0, rows, at, length);
            }
        }

        void copyFrom(int[] rows, int at, int length) {
            if (at >= 0 && length >= 0 && length <= row.length && at <= rows.length - length) {
                System.arraycopy(rows, at, row, 0, length);
            }
        }
    }

    /** The three ways: what a keeper does that is wanted, has left, or gets a letter. */
    private static final class Ways {
        private static final int UNDER_WAY = -1;

        private final Stand stand;
        private final Book book;
        /** Whether entries are written down: not while all is gone through, as those are no entries. */
        boolean writing;

        Ways(Stand stand, Book book) {
            this.stand = stand;
            this.book = book;
            writing = true;
        }

        void wanted(int i) {
            stand.tooMany = false;
            stand.set(i, Stand.MODE, WAITS);
            stand.put(Stand.WANTED_AT + i, stand.get(Stand.ENTRIES));
            if (stand.way == ASKING) {
                wantedByAsking(i);
            } else if (stand.way == TOKEN) {
                wantedByToken(i);
            } else {
                queue(i, i);
                followRules(i);
            }
        }

        void left(int i) {
            stand.tooMany = false;
            stand.set(i, Stand.MODE, IDLE);
            if (stand.way == ASKING) {
                leftByAsking(i);
            } else if (stand.way == TOKEN) {
                leftByToken(i);
            } else {
                followRules(i);
            }
        }

        /** The eldest letter from i to j comes there. */
        void coming(int i, int j) {
            stand.tooMany = false;
            int letter = stand.takeLetter(i, j);
            boolean asked = Stand.kindOf(letter) == ASKED;
            if (stand.way == ASKING) {
                if (asked) {
                    askedByAsking(j, i, Stand.numberOf(letter));
                } else {
                    given(j, i);
                }
            } else if (stand.way == TOKEN) {
                if (asked) {
                    askedByToken(j, i, Stand.numberOf(letter));
                } else {
                    stand.put(Stand.PLACE, j);
                    enter(j);
                }
            } else {
                if (asked) {
                    queue(j, i);
                } else {
                    stand.set(j, Stand.HOLDER, j);
                }
                followRules(j);
            }
        }

        /** From how many others the keeper has still to get GIVEN. */
        int stillToCome(int i) {
            boolean waits = stand.of(i, Stand.MODE) == WAITS;
            return waits ? stand.n - 1 - Integer.bitCount(stand.of(i, Stand.GAVE)) : 0;
        }

        private void enter(int i) {
            stand.set(i, Stand.MODE, IN);
            if (writing) {
                int ever = stand.get(Stand.ENTRIES);
                book.write(ever, i, ever - stand.get(Stand.WANTED_AT + i), stand.sentInAll());
                stand.put(Stand.ENTRIES, ever + 1);
            }
        }

        private void wantedByAsking(int i) {
            int time = stand.of(i, Stand.CLOCK) + 1;
            stand.set(i, Stand.CLOCK, time);
            stand.set(i, Stand.TIME, time);
            stand.set(i, Stand.GAVE, 0);
            stand.sendToOthers(i, ASKED, time);
        }

        private void askedByAsking(int i, int from, int time) {
            stand.set(i, Stand.CLOCK, Math.max(stand.of(i, Stand.CLOCK), time) + 1);
            if (goesBefore(i, from, time)) {
                stand.set(i, Stand.OFF, stand.of(i, Stand.OFF) | 1 << from);
            } else {
                stand.send(i, from, GIVEN, 0);
            }
        }

        private boolean goesBefore(int i, int other, int time) {
            int mode = stand.of(i, Stand.MODE);
            int own = stand.of(i, Stand.TIME);
            return mode == IN || mode == WAITS && (own < time || own == time && i < other);
        }

        private void given(int i, int from) {
            stand.set(i, Stand.GAVE, stand.of(i, Stand.GAVE) | 1 << from);
            if (stand.of(i, Stand.MODE) == WAITS && stillToCome(i) == 0) {
                enter(i);
            }
        }

        private void leftByAsking(int i) {
            int off = stand.of(i, Stand.OFF);
            for (int j = 0; j < stand.n; j++) {
                if ((off >> j & 1) != 0) {
                    stand.send(i, j, GIVEN, 0);
                }
            }
            stand.set(i, Stand.OFF, 0);
        }

        private void wantedByToken(int i) {
            if (stand.hasToken(i)) {
                enter(i);
                return;
            }
            int times = stand.known(i, i) + 1;
            stand.setKnown(i, i, times);
            stand.sendToOthers(i, ASKED, times);
        }

        private void askedByToken(int i, int from, int times) {
            stand.setKnown(i, from, Math.max(stand.known(i, from), times));
            if (stand.hasToken(i) && stand.of(i, Stand.MODE) == IDLE && isDue(i, from)) {
                passToken(i, from);
            }
        }

        /** Whether keeper i knows of one asking of j that the token does not tell. */
        private boolean isDue(int i, int j) {
            return stand.known(i, j) == stand.get(Stand.STANDS + j) + 1;
        }

        private void passToken(int i, int j) {
            stand.put(Stand.PLACE, UNDER_WAY);
            stand.send(i, j, PASSED, 0);
        }

        private void leftByToken(int i) {
            stand.put(Stand.STANDS + i, stand.known(i, i));
            for (int j = 0; j < stand.n; j++) {
                if (!stand.rowHas(j) && isDue(i, j)) {
                    stand.append(Stand.ROW, Stand.MOST, j);
                }
            }
            if (stand.get(Stand.ROW) > 0) {
                passToken(i, stand.takeFirst(Stand.ROW, Stand.MOST));
            }
        }

        private void queue(int i, int j) {
            // A keeper stands at most once in a queue, so there is always room.
            stand.append(Stand.queueOf(i), Stand.MOST, j);
        }

        /** THE RULES of the document, by TREE. */
        private void followRules(int i) {
            boolean isIn = stand.of(i, Stand.MODE) == IN;
            if (stand.hasToken(i) && !isIn && stand.get(Stand.queueOf(i)) > 0) {
                int first = stand.takeFirst(Stand.queueOf(i), Stand.MOST);
                stand.set(i, Stand.HOLDER, first);
                stand.set(i, Stand.HAS_ASKED, 0);
                if (first == i) {
                    enter(i);
                } else {
                    stand.send(i, first, PASSED, 0);
                }
            }
            boolean hasAsked = stand.of(i, Stand.HAS_ASKED) != 0;
            if (!stand.hasToken(i) && stand.get(Stand.queueOf(i)) > 0 && !hasAsked) {
                stand.send(i, stand.of(i, Stand.HOLDER), ASKED, 0);
                stand.set(i, Stand.HAS_ASKED, 1);
            }
        }
    }

    /** The latest entries, at their number modulo RING: enough that acts taken back bring the elder ones forth. */
    private static final class Book {
        static final int MOST_TOLD = 60;
        static final int PART = 3;
        private static final int RING = MOST_TOLD + Past.MOST_KEPT;

        private final int[] lines;

        Book() {
            lines = new int[RING * PART];
        }

        void write(int number, int keeper, int wait, int sent) {
            int at = number % RING * PART;
            if (at >= 0 && at + 2 < lines.length) {
                lines[at] = keeper;
                lines[at + 1] = wait;
                lines[at + 2] = sent;
            }
        }

        int read(int number, int what) {
            int at = number % RING * PART + what;
            return at >= 0 && at < lines.length ? lines[at] : 0;
        }
    }

    /** The rows as they were before the latest acts, with one more place for the act that is being done. */
    private static final class Past {
        static final int MOST_KEPT = 30;
        private static final int PLACES = MOST_KEPT + 1;

        private final Stand stand;
        private final int[] rows;
        private int place;
        int kept;

        Past(Stand stand) {
            this.stand = stand;
            rows = new int[PLACES * Stand.SIZE];
        }

        void forget() {
            kept = 0;
        }

        void mark() {
            stand.copyTo(rows, place * Stand.SIZE, Stand.SIZE);
        }

        void backToMark() {
            stand.copyFrom(rows, place * Stand.SIZE, Stand.SIZE);
        }

        void keepMark() {
            place = (place + 1) % PLACES;
            kept = Math.min(kept + 1, MOST_KEPT);
        }

        boolean takeBack() {
            if (kept == 0) {
                return false;
            }
            kept--;
            place = (place + PLACES - 1) % PLACES;
            backToMark();
            return true;
        }
    }

    /** Goes through all states, each kept once, in the order in which they were brought. */
    private static final class Search {
        private static final int MOST_STATES = 300;
        private static final int TABLE = 1024;
        private static final int TOLD = 7;

        private final Stand stand;
        private final Ways ways;
        private final int[] states;
        private final int[] hashes;
        /** Where a state stands by its hash: its number and 1, or 0 for a free place. */
        private final int[] table;
        private final int[] before;
        final int[] told;
        private int found;
        private boolean spent;
        private boolean brought;

        Search(Stand stand, Ways ways) {
            this.stand = stand;
            this.ways = ways;
            states = new int[MOST_STATES * Stand.ALIKE];
            hashes = new int[MOST_STATES];
            table = new int[TABLE];
            before = new int[Stand.SIZE];
            told = new int[TOLD];
        }

        int goThrough() {
            Arrays.fill(told, 0);
            Arrays.fill(table, 0);
            found = 0;
            spent = false;
            stand.copyTo(before, 0, Stand.SIZE);
            ways.writing = false;
            keep();
            for (int k = 0; k < found && k < MOST_STATES; k++) {
                goFrom(k);
            }
            ways.writing = true;
            stand.copyFrom(before, 0, Stand.SIZE);
            told[0] = found;
            return spent ? SPENT : found;
        }

        private void goFrom(int k) {
            load(k);
            boolean oneWaits = stand.howMany(WAITS) > 0;
            tally();
            brought = false;
            for (int i = 0; i < stand.n; i++) {
                for (int j = 0; j < stand.n; j++) {
                    if (stand.underWay(i, j) > 0) {
                        ways.coming(i, j);
                        weigh(k);
                    }
                }
            }
            for (int i = 0; i < stand.n; i++) {
                if (stand.of(i, Stand.MODE) == IN) {
                    ways.left(i);
                    weigh(k);
                }
            }
            if (!brought) {
                told[1]++;
                told[3] += oneWaits ? 1 : 0;
            }
        }

        private void load(int k) {
            stand.copyFrom(states, k * Stand.ALIKE, Stand.ALIKE);
        }

        private void tally() {
            int inside = stand.howMany(IN);
            told[2] = Math.max(told[2], inside);
            told[4] += inside == 0 && stand.tokenIsLost() ? 1 : 0;
            told[6] = Math.max(told[6], stand.underWayInAll());
        }

        /** Keeps what a way from state k brought, or counts it as not gone; then state k is there again. */
        private void weigh(int k) {
            if (stand.tooMany) {
                told[5]++;
            } else {
                brought = true;
                keep();
            }
            load(k);
        }

        private void keep() {
            int hash = hash();
            int slot = hash & TABLE - 1;
            for (int tries = 0; tries < TABLE && table[slot] != 0; tries++) {
                if (isState(table[slot] - 1, hash)) {
                    return;
                }
                slot = slot + 1 & TABLE - 1;
            }
            if (found >= MOST_STATES) {
                spent = true;
                return;
            }
            stand.copyTo(states, found * Stand.ALIKE, Stand.ALIKE);
            hashes[found] = hash;
            found++;
            table[slot] = found;
        }

        private boolean isState(int k, int hash) {
            if (k < 0 || k >= hashes.length || hashes[k] != hash) {
                return false;
            }
            if (!isLike(k, Stand.MODE, Stand.CLOCK) || !isLike(k, stand.wayFrom(), stand.wayTo())) {
                return false;
            }
            for (int i = 0; i < stand.n; i++) {
                for (int j = 0; j < stand.n; j++) {
                    int from = Stand.lettersOf(i, j);
                    if (!isLike(k, from, from + 1 + stand.underWay(i, j))) {
                        return false;
                    }
                }
            }
            return true;
        }

        /** Whether a part of the row is as in state k. */
        private boolean isLike(int k, int from, int to) {
            int[] row = stand.row;
            int at = k * Stand.ALIKE;
            if (from < 0 || to > row.length || at < 0 || at > states.length - to) {
                return false;
            }
            for (int place = from; place < to; place++) {
                if (states[at + place] != row[place]) {
                    return false;
                }
            }
            return true;
        }

        private int hash() {
            int hash = mixed(0, Stand.MODE, Stand.CLOCK);
            hash = mixed(hash, stand.wayFrom(), stand.wayTo());
            for (int i = 0; i < stand.n; i++) {
                for (int j = 0; j < stand.n; j++) {
                    int from = Stand.lettersOf(i, j);
                    hash = mixed(hash, from, from + 1 + stand.underWay(i, j));
                }
            }
            return hash ^ hash >>> 16;
        }

        private int mixed(int hash, int from, int to) {
            int[] row = stand.row;
            int mixed = hash;
            for (int place = Math.max(from, 0); place < to && place < row.length; place++) {
                mixed = mixed * 31 + row[place];
            }
            return mixed;
        }
    }
}
