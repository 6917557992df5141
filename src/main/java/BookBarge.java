import java.util.Arrays;

/**
 * One barge or two that are libraries, on a river of stops: what is aboard, how they lie, and what follows from it.
 * The document's words stand in capitals in the comments. Every row is made once, in a constructor, since all calls
 * of a run share one room.
 */
public final class BookBarge {
    public static final int NONE = -1;

    private static final int CANNOT_BE = -2;
    private static final int FAR_OFF = -1000000;
    private static final int BEYOND_ALL = 1000000000;
    private static final int LONGEST_TAPE = 400;
    private static final int MOST_RULES = 6;
    private static final int MOST_IMAGES = 4;
    private static final int MOST_UNDONE = 20;
    private static final int MOST_STOPS_OF_A_RUN = 8;
    private static final int MOST_VOYAGES = 20;

    private final int[] tape = new int[LONGEST_TAPE];
    private int tapeLength = 0;
    private final World world = new World();
    private final World[] images = new World[MOST_IMAGES];
    private final Rule[] rules = new Rule[MOST_RULES];
    private int ruleCount = 0;
    private final int[] past = new int[MOST_UNDONE * World.MOVING];
    private int pastNext = 0;
    private int pastCount = 0;
    private final RiverParser riverParser = new RiverParser();
    private final RuleParser ruleParser = new RuleParser();
    private final Journey journey = new Journey();
    private final Leaving leaving = new Leaving();
    private final Lending lender = new Lending();
    private final Meeting meeter = new Meeting();
    private final Cargo cargo = new Cargo();
    private final Plugging plugging = new Plugging();

    public BookBarge() {
    }

    public int feed(int a, int b, int c, int d, int e) {
        if (tapeLength + 20 > LONGEST_TAPE) {
            return NONE;
        }
        appendFour(a);
        appendFour(b);
        appendFour(c);
        appendFour(d);
        appendFour(e);
        return tapeLength;
    }

    private void appendFour(int bytes) {
        for (int shift = 24; shift >= 0 && tapeLength < LONGEST_TAPE; shift -= 8) {
            tape[tapeLength] = (bytes >> shift) & 255;
            tapeLength++;
        }
    }

    public int end(int n) {
        if (n < 0 || n > tapeLength) {
            return NONE;
        }
        tapeLength = n;
        return n;
    }

    public int river() {
        int fault = riverParser.parse(tape, tapeLength);
        tapeLength = 0;
        if (fault != 0) {
            return -2 - fault;
        }
        int x = world.cell(World.X, 0);
        world.copy(riverParser.told);
        world.cells[World.X] = x;
        forgetActs();
        return world.cell(World.BOOKS, 0);
    }

    public int rule() {
        if (ruleCount >= MOST_RULES) {
            return NONE;
        }
        int fault = ruleParser.parse(tape, tapeLength);
        tapeLength = 0;
        if (fault != 0) {
            return -2 - fault;
        }
        rules[ruleCount] = ruleParser.made();
        ruleCount++;
        return ruleCount - 1;
    }

    public int book(int book, int what) {
        if (!world.hasBook(book)) {
            return NONE;
        }
        switch (what) {
            case 0: return world.cell(World.WEIGHT, book);
            case 1: return world.cell(World.SHELF, book);
            case 2: return world.cell(World.WORTH, book);
            case 3: return world.cell(World.DAMP, book);
            case 4: return world.cell(World.WHERE, book);
            case 5: return world.cell(World.LOANS, book);
            case 6: return world.cell(World.DUE, book);
            default: return NONE;
        }
    }

    public int stop(int stop, int what) {
        if (!world.hasStop(stop)) {
            return NONE;
        }
        switch (what) {
            case 0: return world.depthOf(stop);
            case 1: return world.booksAt(stop);
            case 2: return passing(0, stop);
            case 3: return passing(1, stop);
            case 4: return world.readersAt(stop);
            default: return NONE;
        }
    }

    private int passing(int barge, int stop) {
        if (!world.hasBarge(barge)) {
            return NONE;
        }
        return world.passes(barge, stop) ? 1 : 0;
    }

    public int reader(int reader, int what) {
        if (!world.hasReader(reader)) {
            return NONE;
        }
        switch (what) {
            case 0: return world.cell(World.HOME, reader);
            case 1: return world.cell(World.THUMB, reader);
            case 2: return world.cell(World.DAYS, reader);
            case 3: return world.cell(World.HAS, reader);
            case 4: return world.cell(World.SERVED, reader);
            default: return NONE;
        }
    }

    public int wish(int reader, int book) {
        if (!world.hasReader(reader) || !world.hasBook(book)) {
            return NONE;
        }
        return world.coins(reader, book);
    }

    public int lies(int barge, int what) {
        if (!world.hasBarge(barge)) {
            return FAR_OFF;
        }
        switch (what) {
            case 0: return world.loadOf(barge);
            case 1: return world.tiltOf(barge);
            case 2: return world.draughtOf(barge);
            case 3: return world.cell(World.WATER, barge);
            case 4: return world.cell(World.AT, barge);
            case 5: return world.cell(World.EARNED, barge);
            case 6: return world.cell(World.SHELVES, barge);
            default: return FAR_OFF;
        }
    }

    public int leave(int book) {
        int barge = world.bargeOf(book);
        if (barge == NONE) {
            return NONE;
        }
        remember();
        world.putAshore(book, barge);
        return world.draughtOf(barge);
    }

    public int lend(int book, int reader) {
        int barge = world.bargeOf(book);
        if (barge == NONE || !world.waitsFor(reader, barge)) {
            return NONE;
        }
        remember();
        world.giveTo(reader, book, barge);
        return world.draughtOf(barge);
    }

    public int fetch(int book, int barge, int shelf) {
        if (!world.hasShelf(barge, shelf) || !world.canFetch(book, barge)) {
            return NONE;
        }
        remember();
        world.takeIn(book, barge, shelf);
        return world.draughtOf(barge);
    }

    public int shift(int book, int shelf) {
        int barge = world.bargeOf(book);
        if (barge == NONE || !world.hasShelf(barge, shelf) || world.cell(World.SHELF, book) == shelf) {
            return NONE;
        }
        remember();
        world.cells[World.SHELF + book] = shelf;
        return world.draughtOf(barge);
    }

    public int hand(int book, int shelf) {
        int barge = world.bargeOf(book);
        if (barge == NONE || !world.bargesMeet() || !world.hasShelf(1 - barge, shelf)) {
            return NONE;
        }
        remember();
        world.putAboard(book, 1 - barge, shelf);
        return world.draughtOf(1 - barge);
    }

    public int sail(int barge, boolean isOn) {
        if (!world.hasBarge(barge)) {
            return NONE;
        }
        int stop = world.cell(World.AT, barge) + (isOn ? 1 : -1);
        if (!world.hasStop(stop) || !world.passes(barge, stop)) {
            return NONE;
        }
        remember();
        world.cells[World.AT + barge] = stop;
        return stop;
    }

    public int night() {
        if (world.cell(World.BARGES, 0) == 0 || world.cell(World.DAY, 0) >= World.LAST_DAY) {
            return NONE;
        }
        remember();
        world.passNight();
        return world.cell(World.DAY, 0);
    }

    public int rain() {
        if (!world.canRain()) {
            return NONE;
        }
        remember();
        return world.wetAboard();
    }

    public int pump(int barge) {
        if (!world.hasBarge(barge) || world.cell(World.WATER, barge) == 0) {
            return NONE;
        }
        remember();
        int water = world.cell(World.WATER, barge);
        world.cells[World.WATER + barge] = 0;
        return water;
    }

    public int plug(int hole, int book) {
        if (!world.isOpen(hole) || !world.fits(book, hole)) {
            return NONE;
        }
        remember();
        world.cells[World.STOPPED + hole] = 1;
        world.cells[World.WHERE + book] = World.GONE;
        return world.draughtOf(world.cell(World.HOLE_BARGE, hole));
    }

    public int hole(int hole, int what) {
        if (!world.hasHole(hole)) {
            return NONE;
        }
        switch (what) {
            case 0: return world.cell(World.HOLE_BARGE, hole);
            case 1: return world.cell(World.HOLE_WATER, hole);
            case 2: return world.cell(World.STOPPED, hole);
            default: return NONE;
        }
    }

    public int undo() {
        if (pastCount == 0) {
            return NONE;
        }
        pastNext = pastNext == 0 ? MOST_UNDONE - 1 : pastNext - 1;
        System.arraycopy(past, pastNext * World.MOVING, world.cells, 0, World.MOVING);
        pastCount--;
        return pastCount;
    }

    // The row is a ring: the eldest ACT is written over, as only the last twenty can be UNDONE.
    private void remember() {
        System.arraycopy(world.cells, 0, past, pastNext * World.MOVING, World.MOVING);
        pastNext = pastNext == MOST_UNDONE - 1 ? 0 : pastNext + 1;
        if (pastCount < MOST_UNDONE) {
            pastCount++;
        }
    }

    private void forgetActs() {
        pastCount = 0;
    }

    private boolean hasRule(int rule) {
        return rule >= 0 && rule < ruleCount;
    }

    public int run(int rule, int barge, int n) {
        if (!hasRule(rule) || !world.hasBarge(barge) || n < 1 || n > MOST_STOPS_OF_A_RUN) {
            return NONE;
        }
        forgetActs();
        journey.begin(world, rules[rule], barge);
        boolean goesOn = true;
        for (int stops = 0; stops < n && goesOn; stops++) {
            goesOn = journey.goOneStop();
        }
        return world.cell(World.AT, barge);
    }

    public int left(int barge, int stop, int what) {
        if (!world.isFrom(barge, stop) || stop == world.cell(World.AT, barge) || what < 0 || what > 1) {
            return NONE;
        }
        if (!leaving.find(world, barge, stop)) {
            return CANNOT_BE;
        }
        return what == 0 ? leaving.bestWorth : leaving.bestSet;
    }

    public int lending(int barge, int stop, int what) {
        if (!world.isFrom(barge, stop) || what < 0 || what > 7) {
            return NONE;
        }
        int coins = lender.mostCoins(world, barge, stop, 0, NONE);
        if (what == 1) {
            return Math.max(lender.mostCoins(world, barge, stop, 1, NONE), 0) - Math.max(coins, 0);
        }
        if (coins == NONE) {
            return CANNOT_BE;
        }
        return what == 0 ? coins : lender.best[what - 2];
    }

    public int dear(int barge, int stop, int reader) {
        if (!world.isFrom(barge, stop) || !world.hasReader(reader)) {
            return NONE;
        }
        int coins = Math.max(lender.mostCoins(world, barge, stop, 0, NONE), 0);
        return coins - Math.max(lender.mostCoins(world, barge, stop, 0, reader), 0);
    }

    public int room(int barge, int shelf) {
        if (!world.hasShelf(barge, shelf)) {
            return NONE;
        }
        int next = world.cell(World.AT, barge) + 1;
        if (!world.hasStop(next) || !world.passes(barge, next)) {
            return CANNOT_BE;
        }
        return world.roomOn(barge, shelf, world.depthOf(next));
    }

    public int meeting() {
        if (!world.bargesMeet()) {
            return NONE;
        }
        return meeter.find(world) ? meeter.bestSet : CANNOT_BE;
    }

    public int aboard(int barge, int draught, int tilt, int what) {
        if (!world.hasBarge(barge) || draught < 0 || draught > 9999 || what < 0 || what > 2) {
            return NONE;
        }
        cargo.find(world, barge, draught, tilt, tilt == FAR_OFF);
        if (what == 0) {
            return cargo.found;
        }
        if (cargo.found == 0) {
            return 0;
        }
        return what == 1 ? cargo.inAll : cargo.inNone;
    }

    public int plugs(int barge, int what) {
        if (!world.hasBarge(barge) || what < 0 || what > 4) {
            return NONE;
        }
        if (!plugging.find(world, barge)) {
            return CANNOT_BE;
        }
        return what == 0 ? plugging.bestWorth : plugging.best[what - 1];
    }

    public int seed(int x) {
        if (x < 0) {
            return NONE;
        }
        int was = world.cell(World.X, 0);
        world.cells[World.X] = x;
        return was;
    }

    public int voyages(int rule, int barge, int m, int n, int p, int what) {
        if (!hasRule(rule) || !world.hasBarge(barge) || m < 1 || m > MOST_VOYAGES) {
            return NONE;
        }
        if (n < 1 || n > MOST_STOPS_OF_A_RUN || p < 0 || p > 100 || what < 0 || what > 2) {
            return NONE;
        }
        journey.begin(journey.trip, rules[rule], barge);
        journey.drawVoyages(world, m, n, p);
        if (what == 0) {
            return journey.arrived;
        }
        return what == 1 ? journey.lent : journey.ashore;
    }

    public int count(int what) {
        switch (what) {
            case 0: return world.cell(World.BARGES, 0);
            case 1: return world.cell(World.BOOKS, 0);
            case 2: return world.cell(World.STOPS, 0);
            case 3: return world.cell(World.READERS, 0);
            case 4: return world.cell(World.HOLES, 0);
            case 5: return ruleCount;
            case 6: return world.cell(World.DAY, 0);
            case 7: return world.booksBetween(World.ABOARD, World.ABOARD + 1);
            case 8: return world.booksBetween(0, World.ABOARD - 1);
            case 9: return world.booksBetween(World.WITH, World.GONE - 1);
            case 10: return world.booksBetween(World.GONE, World.GONE);
            case 11: return pastCount;
            case 12: return world.cell(World.X, 0);
            case 13: return tapeLength;
            default: return NONE;
        }
    }

    public int image(int k) {
        if (k < 0 || k >= MOST_IMAGES) {
            return NONE;
        }
        if (images[k] == null) {
            images[k] = new World();
        }
        images[k].copy(world);
        return world.cell(World.DAY, 0);
    }

    public int back(int k) {
        if (k < 0 || k >= MOST_IMAGES || images[k] == null) {
            return NONE;
        }
        world.copy(images[k]);
        forgetActs();
        return world.cell(World.DAY, 0);
    }

    /**
     * A RIVER as it is now, in one row of numbers: so it is copied whole for an IMAGE or a VOYAGE. What ACTS change
     * stands first, so that an ACT is UNDONE by this part alone.
     */
    private static final class World {
        // Where each row starts in the cells; a row has a cell for each BARGE, BOOK, STOP, READER or HOLE there can be.
        static final int DAY = 0;
        static final int AT = 1;
        static final int WATER = 3;
        static final int EARNED = 5;
        static final int STOPPED = 7;
        static final int HAS = 11;
        static final int SERVED = 17;
        static final int SHELF = 23;
        static final int DAMP = 35;
        static final int WHERE = 47;
        static final int LOANS = 59;
        static final int DUE = 71;
        static final int MOVING = 83;
        static final int X = 83;
        static final int BARGES = 84;
        static final int BOOKS = 85;
        static final int STOPS = 86;
        static final int READERS = 87;
        static final int HOLES = 88;
        static final int SHELVES = 89;
        static final int OWN = 91;
        static final int STONE = 93;
        static final int LEAN = 95;
        static final int WEIGHT = 97;
        static final int WORTH = 109;
        static final int DEPTHS = 121;
        static final int HOME = 153;
        static final int THUMB = 159;
        static final int DAYS = 165;
        static final int WISHES = 171;
        static final int HOLE_BARGE = 243;
        static final int HOLE_WATER = 247;
        static final int SIZE = 251;

        static final int MOST_BOOKS = 12;
        static final int MOST_STOPS = 8;
        static final int MOST_READERS = 6;
        static final int MOST_HOLES = 4;
        static final int SEASONS = 4;
        static final int LAST_DAY = 9999;
        static final int MOST_WATER = 9999;
        static final int MOST_DAMP = 9;

        static final int ABOARD = 100;
        static final int WITH = 200;
        static final int GONE = 300;

        final int[] cells = new int[SIZE];

        void copy(World other) {
            System.arraycopy(other.cells, 0, cells, 0, SIZE);
        }

        int cell(int row, int number) {
            int at = row + number;
            return at >= 0 && at < SIZE ? cells[at] : 0;
        }

        boolean hasBarge(int barge) {
            return barge >= 0 && barge < cells[BARGES];
        }

        boolean hasBook(int book) {
            return book >= 0 && book < cells[BOOKS];
        }

        boolean hasStop(int stop) {
            return stop >= 0 && stop < cells[STOPS];
        }

        boolean hasReader(int reader) {
            return reader >= 0 && reader < cells[READERS];
        }

        boolean hasHole(int hole) {
            return hole >= 0 && hole < cells[HOLES];
        }

        boolean hasShelf(int barge, int shelf) {
            return hasBarge(barge) && shelf >= 0 && shelf < cells[SHELVES + barge];
        }

        /** Whether it is a STOP of this BARGE's: the one she is AT, or one behind. */
        boolean isFrom(int barge, int stop) {
            return hasBarge(barge) && hasStop(stop) && stop >= cells[AT + barge];
        }

        boolean bargesMeet() {
            return cells[BARGES] == 2 && cells[AT] == cells[AT + 1];
        }

        int depthOf(int stop) {
            if (!hasStop(stop)) {
                return 0;
            }
            return cells[DEPTHS + stop * SEASONS + cells[DAY] / 90 % SEASONS];
        }

        int coins(int reader, int book) {
            return cell(WISHES, reader * MOST_BOOKS + book);
        }

        int heavy(int book) {
            return cell(WEIGHT, book) + cell(DAMP, book);
        }

        int arm(int barge, int shelf) {
            return 2 * shelf - cell(SHELVES, barge) + 1;
        }

        /** The SHELF of that number, or her last one, if she has not so many. */
        int shelfOf(int barge, int shelf) {
            return Math.min(shelf, cell(SHELVES, barge) - 1);
        }

        int loadOf(int barge) {
            int load = cell(OWN, barge) + cell(WATER, barge);
            for (int book = 0; book < cells[BOOKS]; book++) {
                if (cells[WHERE + book] == ABOARD + barge) {
                    load += cells[WEIGHT + book] + cells[DAMP + book];
                }
            }
            return load;
        }

        int tiltOf(int barge) {
            int tilt = 0;
            int middle = cell(SHELVES, barge) - 1;
            for (int book = 0; book < cells[BOOKS]; book++) {
                if (cells[WHERE + book] == ABOARD + barge) {
                    tilt += (cells[WEIGHT + book] + cells[DAMP + book]) * (2 * cells[SHELF + book] - middle);
                }
            }
            return tilt;
        }

        static int draughtBy(int load, int tilt, int stone, int lean) {
            if (stone < 1 || lean < 1) {
                return 0;
            }
            return (load + stone - 1) / stone + Math.abs(tilt) / lean;
        }

        int draughtOf(int barge) {
            return draughtBy(loadOf(barge), tiltOf(barge), cell(STONE, barge), cell(LEAN, barge));
        }

        boolean passes(int barge, int stop) {
            return depthOf(stop) >= draughtOf(barge);
        }

        /** The BARGE that a BOOK is ABOARD, or NONE. */
        int bargeOf(int book) {
            int where = hasBook(book) ? cells[WHERE + book] : GONE;
            return where == ABOARD || where == ABOARD + 1 ? where - ABOARD : NONE;
        }

        int booksAt(int stop) {
            int set = 0;
            for (int book = 0; book < cells[BOOKS]; book++) {
                if (cells[WHERE + book] == stop) {
                    set |= 1 << book;
                }
            }
            return set;
        }

        int readersAt(int stop) {
            int set = 0;
            for (int reader = 0; reader < cells[READERS]; reader++) {
                if (cells[HOME + reader] == stop) {
                    set |= 1 << reader;
                }
            }
            return set;
        }

        int booksBetween(int least, int most) {
            int number = 0;
            for (int book = 0; book < cells[BOOKS]; book++) {
                if (cells[WHERE + book] >= least && cells[WHERE + book] <= most) {
                    number++;
                }
            }
            return number;
        }

        /** Whether there is a READER at the STOP of this BARGE who has none. */
        boolean waitsFor(int reader, int barge) {
            return hasReader(reader) && cells[HOME + reader] == cell(AT, barge) && cells[HAS + reader] == NONE;
        }

        /** Of the READERS at a STOP who have none the one whose WISH for a BOOK is greatest; NONE without a WISH. */
        int keenestReader(int book, int stop) {
            int keenest = NONE;
            int most = 0;
            for (int reader = 0; reader < cells[READERS] && hasBook(book); reader++) {
                int coins = cells[WISHES + reader * MOST_BOOKS + book];
                if (coins > most && cells[HOME + reader] == stop && cells[HAS + reader] == NONE) {
                    most = coins;
                    keenest = reader;
                }
            }
            return keenest;
        }

        boolean canFetch(int book, int barge) {
            if (!hasBook(book)) {
                return false;
            }
            int where = cells[WHERE + book];
            int stop = cell(AT, barge);
            int reader = where - WITH;
            if (!hasReader(reader)) {
                return where == stop;
            }
            return cells[HOME + reader] == stop && cells[DAY] >= cells[DUE + book];
        }

        boolean isOpen(int hole) {
            return hasHole(hole) && cells[STOPPED + hole] == 0;
        }

        boolean fits(int book, int hole) {
            int barge = bargeOf(book);
            return barge != NONE && barge == cell(HOLE_BARGE, hole) && cell(WEIGHT, book) >= cell(HOLE_WATER, hole);
        }

        void putAshore(int book, int barge) {
            if (hasBook(book)) {
                cells[WHERE + book] = cell(AT, barge);
            }
        }

        void giveTo(int reader, int book, int barge) {
            if (!hasReader(reader) || !hasBook(book) || !hasBarge(barge)) {
                return;
            }
            cells[WHERE + book] = WITH + reader;
            cells[DUE + book] = cells[DAY] + cells[DAYS + reader];
            cells[LOANS + book]++;
            cells[HAS + reader] = book;
            cells[SERVED + reader]++;
            cells[EARNED + barge] += coins(reader, book);
        }

        void takeIn(int book, int barge, int shelf) {
            int reader = cell(WHERE, book) - WITH;
            if (hasReader(reader)) {
                cells[HAS + reader] = NONE;
                cells[DAMP + book] = Math.min(MOST_DAMP, cells[DAMP + book] + cells[THUMB + reader]);
                cells[DUE + book] = NONE;
            }
            putAboard(book, barge, shelf);
        }

        void putAboard(int book, int barge, int shelf) {
            if (hasBook(book)) {
                cells[WHERE + book] = ABOARD + barge;
                cells[SHELF + book] = shelf;
            }
        }

        void passNight() {
            cells[DAY] = Math.min(LAST_DAY, cells[DAY] + 1);
            for (int hole = 0; hole < cells[HOLES]; hole++) {
                int barge = cells[HOLE_BARGE + hole];
                if (isOpen(hole) && hasBarge(barge)) {
                    cells[WATER + barge] = Math.min(MOST_WATER, cells[WATER + barge] + cells[HOLE_WATER + hole]);
                }
            }
        }

        boolean canBeWetter(int book) {
            return bargeOf(book) != NONE && cells[DAMP + book] < MOST_DAMP;
        }

        boolean canRain() {
            for (int book = 0; book < cells[BOOKS]; book++) {
                if (canBeWetter(book)) {
                    return true;
                }
            }
            return false;
        }

        int wetAboard() {
            int number = 0;
            for (int book = 0; book < cells[BOOKS]; book++) {
                if (canBeWetter(book)) {
                    cells[DAMP + book]++;
                    number++;
                }
            }
            return number;
        }

        /** Each weight is tried from above: a book that rights her may pass where a lighter one does not. */
        int roomOn(int barge, int shelf, int depth) {
            int load = loadOf(barge);
            int tilt = tiltOf(barge);
            int arm = arm(barge, shelf);
            int stone = cell(STONE, barge);
            int lean = cell(LEAN, barge);
            for (int weight = Math.min(999, depth * stone - load); weight > 0; weight--) {
                if (draughtBy(load + weight, tilt + weight * arm, stone, lean) <= depth) {
                    return weight;
                }
            }
            return 0;
        }
    }

    /** Goes along the TAPE; stands always on a byte that is no blank, or behind the last. */
    private abstract static class Scanner {
        static final int STRAY = 0;
        static final int BAD_NUMBER = 1;
        static final int TOO_DEEP = 2;
        static final int ONE_PART_TOO_MANY = 3;
        static final int ONE_CLAUSE_TOO_MANY = 4;
        private static final int MOST_DIGITS = 5;

        private final int[] text = new int[LONGEST_TAPE];
        private int length = 0;
        int place = 0;
        int number = 0;
        int fault = 0;

        final void open(int[] tape, int bytes) {
            length = Math.max(0, Math.min(bytes, Math.min(tape.length, LONGEST_TAPE)));
            System.arraycopy(tape, 0, text, 0, length);
            place = 0;
            fault = 0;
            skipBlanks();
        }

        /** Notes a FAULT; answers false, as all that reads does then. */
        final boolean wrong(int at, int kind) {
            fault = 1 + 8 * at + kind;
            return false;
        }

        final void skipBlanks() {
            while (place < length && text[place] == ' ') {
                place++;
            }
        }

        /** The byte here; NONE at the end. */
        final int sign() {
            return place >= 0 && place < length ? text[place] : NONE;
        }

        final boolean isAtEnd() {
            return place >= length;
        }

        final boolean isAtDigit() {
            return place >= 0 && place < length && text[place] >= '0' && text[place] <= '9';
        }

        /** Only the next byte, without the blanks behind it: a second one may belong to it. */
        final void takeByte() {
            if (place < length) {
                place++;
            }
        }

        final void takeSign() {
            takeByte();
            skipBlanks();
        }

        final boolean tookSign(char wanted) {
            if (sign() != wanted) {
                return false;
            }
            takeSign();
            return true;
        }

        final boolean readNumber(int least, int most) {
            int first = place;
            int digits = 0;
            number = 0;
            while (place < length && isAtDigit()) {
                if (digits < MOST_DIGITS) {
                    number = number * 10 + text[place] - '0';
                }
                digits++;
                place++;
            }
            if (digits == 0) {
                return wrong(first, STRAY);
            }
            if (digits > MOST_DIGITS || number < least || number > most) {
                return wrong(first, BAD_NUMBER);
            }
            skipBlanks();
            return true;
        }

        private int wordEnd() {
            int end = place;
            while (end < length && text[end] >= 'a' && text[end] <= 'z') {
                end++;
            }
            return end;
        }

        /** Which of some words, told with blanks between, stands here; NONE: another, or none. */
        final int wordAmong(String words) {
            int end = wordEnd();
            int word = 0;
            int like = place;
            for (int i = 0; i <= words.length() && end > place; i++) {
                char letter = i < words.length() ? words.charAt(i) : ' ';
                if (letter != ' ') {
                    like = like >= 0 && like < end && text[like] == letter ? like + 1 : NONE;
                } else if (like == end) {
                    return word;
                } else {
                    word++;
                    like = place;
                }
            }
            return NONE;
        }

        final void takeWord() {
            place = wordEnd();
            skipBlanks();
        }

        final boolean tookWord(String wanted) {
            if (wordAmong(wanted) != 0) {
                return false;
            }
            takeWord();
            return true;
        }
    }

    /** Reads the TAPE as a RIVER into a World of its own, so that by a FAULT all stays. */
    private static final class RiverParser extends Scanner {
        private static final int MOST_CLAUSES = 40;
        private static final int BARGE = 0;
        private static final int BOOK = 1;
        private static final int STOP = 2;
        private static final int READER = 3;
        private static final int WISH = 4;
        private static final int HOLE = 5;

        final World told = new World();
        private final int[] cells = told.cells;

        /** The FAULT, or 0. */
        int parse(int[] tape, int bytes) {
            open(tape, bytes);
            Arrays.fill(cells, 0);
            boolean hasMore = true;
            for (int clauses = 0; clauses <= MOST_CLAUSES && hasMore; clauses++) {
                if (!readClause(clauses)) {
                    return fault;
                }
                hasMore = tookSign(';');
            }
            if (!isAtEnd() || cells[World.STOPS] == 0) {
                wrong(place, STRAY);
                return fault;
            }
            settle();
            return 0;
        }

        private void settle() {
            cells[World.AT + 1] = cells[World.STOPS] - 1;
            Arrays.fill(cells, World.HAS, World.HAS + World.MOST_READERS, NONE);
            Arrays.fill(cells, World.DUE, World.DUE + World.MOST_BOOKS, NONE);
        }

        private boolean readClause(int clausesAhead) {
            int first = place;
            int kind = wordAmong("barge book stop reader wish hole");
            if (kind == NONE) {
                return wrong(first, STRAY);
            }
            if (clausesAhead >= MOST_CLAUSES || !hasPlaceFor(kind, clausesAhead)) {
                return wrong(first, ONE_CLAUSE_TOO_MANY);
            }
            takeWord();
            switch (kind) {
                case BARGE: return readBarge();
                case BOOK: return readBook();
                case STOP: return readStop();
                case READER: return readReader();
                case WISH: return readWish();
                default: return readHole();
            }
        }

        private boolean hasPlaceFor(int kind, int clausesAhead) {
            if (kind == BARGE) {
                return cells[World.BARGES] < 2 && cells[World.BARGES] == clausesAhead;
            }
            if (cells[World.BARGES] == 0) {
                return false;
            }
            switch (kind) {
                case BOOK: return cells[World.BOOKS] < World.MOST_BOOKS;
                case STOP: return cells[World.STOPS] < World.MOST_STOPS;
                case READER: return cells[World.READERS] < World.MOST_READERS;
                case HOLE: return cells[World.HOLES] < World.MOST_HOLES;
                default: return true;
            }
        }

        private boolean readInto(int cell, int least, int most) {
            if (!readNumber(least, most) || cell < 0 || cell >= cells.length) {
                return false;
            }
            cells[cell] = number;
            return true;
        }

        private boolean readBarge() {
            int barge = cells[World.BARGES];
            cells[World.BARGES]++;
            return readInto(World.SHELVES + barge, 1, 8) && readInto(World.OWN + barge, 0, 9999)
                && readInto(World.STONE + barge, 1, 99) && readInto(World.LEAN + barge, 1, 999);
        }

        private boolean readBook() {
            int book = cells[World.BOOKS];
            cells[World.BOOKS]++;
            if (!readInto(World.WEIGHT + book, 1, 99) || !readInto(World.WORTH + book, 0, 99)
                || !readNumber(0, cells[World.BARGES] - 1)) {
                return false;
            }
            int barge = number;
            cells[World.WHERE + book] = World.ABOARD + barge;
            return readInto(World.SHELF + book, 0, told.cell(World.SHELVES, barge) - 1);
        }

        private boolean readStop() {
            int row = World.DEPTHS + cells[World.STOPS] * World.SEASONS;
            cells[World.STOPS]++;
            if (!readNumber(1, 999)) {
                return false;
            }
            Arrays.fill(cells, row, row + World.SEASONS, number);
            for (int season = 1; season < World.SEASONS && isAtDigit(); season++) {
                if (!readNumber(1, 999)) {
                    return false;
                }
                Arrays.fill(cells, row + season, row + World.SEASONS, number);
            }
            return true;
        }

        private boolean readReader() {
            int reader = cells[World.READERS];
            cells[World.READERS]++;
            return readInto(World.HOME + reader, 0, cells[World.STOPS] - 1)
                && readInto(World.THUMB + reader, 0, 9) && readInto(World.DAYS + reader, 1, 99);
        }

        private boolean readWish() {
            if (!readNumber(0, cells[World.READERS] - 1)) {
                return false;
            }
            int reader = number;
            if (!readNumber(0, cells[World.BOOKS] - 1)) {
                return false;
            }
            return readInto(World.WISHES + reader * World.MOST_BOOKS + number, 1, 99);
        }

        private boolean readHole() {
            int hole = cells[World.HOLES];
            cells[World.HOLES]++;
            return readInto(World.HOLE_BARGE + hole, 0, cells[World.BARGES] - 1)
                && readInto(World.HOLE_WATER + hole, 1, 99);
        }
    }

    /** Reads the TAPE as a RULE, whose SUMS and TESTS become code: values first, then what joins them. */
    private static final class RuleParser extends Scanner {
        private static final int MOST_CLAUSES = 12;
        private static final int MOST_PARTS = 60;
        private static final int DEEPEST = 10;

        private final int[] code = new int[LONGEST_TAPE];
        private int codeLength = 0;
        private final int[] clauses = new int[MOST_CLAUSES * Rule.CLAUSE_CELLS];
        private int clauseCount = 0;
        private int parts = 0;

        /** The FAULT, or 0. */
        int parse(int[] tape, int bytes) {
            open(tape, bytes);
            codeLength = 0;
            clauseCount = 0;
            parts = 0;
            boolean hasMore = true;
            for (int ahead = 0; ahead <= MOST_CLAUSES && hasMore; ahead++) {
                if (!readClause()) {
                    return fault;
                }
                hasMore = tookSign(';');
            }
            if (!isAtEnd()) {
                wrong(place, STRAY);
            }
            return fault;
        }

        Rule made() {
            return new Rule(Arrays.copyOf(code, codeLength), Arrays.copyOf(clauses, clauseCount * Rule.CLAUSE_CELLS));
        }

        private boolean readClause() {
            int first = place;
            int kind = wordAmong("lend fetch shift");
            if (kind == NONE) {
                return wrong(first, STRAY);
            }
            if (clauseCount >= MOST_CLAUSES) {
                return wrong(first, ONE_CLAUSE_TOO_MANY);
            }
            takeWord();
            int row = clauseCount * Rule.CLAUSE_CELLS;
            clauseCount++;
            clauses[row + Rule.KIND] = kind;
            clauses[row + Rule.SUM_START] = codeLength;
            if (kind == Rule.LEND && !readSum() || kind == Rule.SHIFT && !readNumber(0, 7)) {
                return false;
            }
            clauses[row + Rule.TO_SHELF] = kind == Rule.SHIFT ? number : 0;
            clauses[row + Rule.TEST_START] = codeLength;
            boolean hasTest = kind == Rule.FETCH || tookWord("if");
            if (!hasTest && kind == Rule.SHIFT) {
                return wrong(place, STRAY);
            }
            if (hasTest && !readTest(0)) {
                return false;
            }
            clauses[row + Rule.TEST_END] = codeLength;
            return true;
        }

        private void put(int element) {
            if (codeLength < code.length) {
                code[codeLength] = element;
                codeLength++;
            }
        }

        private boolean countPart(int at) {
            if (parts >= MOST_PARTS) {
                return wrong(at, ONE_PART_TOO_MANY);
            }
            parts++;
            return true;
        }

        private boolean readTest(int depth) {
            boolean isAnd = false;
            boolean isOr = false;
            for (int facts = 0; facts <= MOST_PARTS; facts++) {
                if (!readFact(depth)) {
                    return false;
                }
                if (isAnd) {
                    put(Rule.AND);
                }
                isAnd = tookWord("and");
                if (!isAnd && isOr) {
                    put(Rule.OR);
                }
                if (!isAnd) {
                    isOr = tookWord("or");
                    if (!isOr) {
                        return true;
                    }
                }
            }
            return false;
        }

        private boolean readFact(int depth) {
            boolean isNot = wordAmong("not") == 0;
            boolean isGroup = sign() == '[';
            if ((isNot || isGroup) && depth >= DEEPEST) {
                return wrong(place, TOO_DEEP);
            }
            if (isNot) {
                takeWord();
                if (!readFact(depth + 1)) {
                    return false;
                }
                put(Rule.NOT);
                return true;
            }
            if (isGroup) {
                takeSign();
                return readTest(depth + 1) && (tookSign(']') || wrong(place, STRAY));
            }
            if (!readSum()) {
                return false;
            }
            int first = place;
            int comparison = takeComparison();
            if (comparison == NONE) {
                return wrong(first, STRAY);
            }
            if (!countPart(first) || !readSum()) {
                return false;
            }
            put(comparison);
            return true;
        }

        private int takeComparison() {
            int sign = sign();
            if (sign != '<' && sign != '=' && sign != '>') {
                return NONE;
            }
            takeByte();
            boolean isOrEqual = sign != '=' && sign() == '=';
            if (isOrEqual) {
                takeByte();
            }
            skipBlanks();
            if (sign == '=') {
                return Rule.EQUAL;
            }
            if (sign == '<') {
                return isOrEqual ? Rule.AT_MOST : Rule.BELOW;
            }
            return isOrEqual ? Rule.AT_LEAST : Rule.ABOVE;
        }

        // A product is put at once, a sum only when the TERM behind its sign is whole.
        private boolean readSum() {
            int adding = NONE;
            int scaling = NONE;
            for (int values = 0; values <= MOST_PARTS; values++) {
                if (!readValue()) {
                    return false;
                }
                if (scaling != NONE) {
                    put(scaling);
                }
                int sign = sign();
                boolean isScaling = sign == '*' || sign == '/';
                boolean isAdding = sign == '+' || sign == '-';
                if (!isScaling && adding != NONE) {
                    put(adding);
                }
                if (!isScaling && !isAdding) {
                    return true;
                }
                takeSign();
                scaling = NONE;
                if (isScaling) {
                    scaling = sign == '*' ? Rule.TIMES : Rule.BY;
                } else {
                    adding = sign == '+' ? Rule.PLUS : Rule.MINUS;
                }
            }
            return false;
        }

        private boolean readValue() {
            int first = place;
            if (isAtDigit()) {
                if (!readNumber(0, Rule.WORD - 1)) {
                    return false;
                }
                put(number);
                return countPart(first);
            }
            int word = wordAmong("book weight shelf worth damp wish stop depth draught water loans day");
            if (word == NONE) {
                return wrong(first, STRAY);
            }
            takeWord();
            put(Rule.WORD + word);
            return countPart(first);
        }
    }

    /** A RULE: clauses, each with places in the code of its SUM and its TEST. */
    private static final class Rule {
        static final int KIND = 0;
        static final int TO_SHELF = 1;
        static final int SUM_START = 2;
        static final int TEST_START = 3;
        static final int TEST_END = 4;
        static final int CLAUSE_CELLS = 5;

        static final int LEND = 0;
        static final int FETCH = 1;
        static final int SHIFT = 2;

        static final int WORD = 100000;
        static final int JOINT = 200000;
        static final int PLUS = 200000;
        static final int MINUS = 200001;
        static final int TIMES = 200002;
        static final int BY = 200003;
        static final int BELOW = 200004;
        static final int AT_MOST = 200005;
        static final int EQUAL = 200006;
        static final int AT_LEAST = 200007;
        static final int ABOVE = 200008;
        static final int AND = 200009;
        static final int OR = 200010;
        static final int NOT = 200011;

        private final int[] code;
        private final int[] clauses;
        private final long[] stack = new long[64];

        Rule(int[] code, int[] clauses) {
            this.code = code;
            this.clauses = clauses;
        }

        int part(int clause, int cell) {
            int at = clause * CLAUSE_CELLS + cell;
            return at >= 0 && at < clauses.length ? clauses[at] : NONE;
        }

        /** The first CLAUSE of a kind whose TEST holds, of shift CLAUSES those alone whose SHELF is there. */
        int firstClause(int kind, int shelves, long[] words) {
            for (int clause = 0; clause < clauses.length / CLAUSE_CELLS; clause++) {
                if (part(clause, KIND) == kind && part(clause, TO_SHELF) < shelves) {
                    int start = part(clause, TEST_START);
                    int end = part(clause, TEST_END);
                    if (start == end || worked(start, end, words) != 0) {
                        return clause;
                    }
                }
            }
            return NONE;
        }

        long sum(int clause, long[] words) {
            return worked(part(clause, SUM_START), part(clause, TEST_START), words);
        }

        private long worked(int start, int end, long[] words) {
            int top = 0;
            stack[0] = 0;
            for (int i = Math.max(start, 0); i < end && i < code.length && top < stack.length; i++) {
                int element = code[i];
                if (element < JOINT) {
                    int word = element - WORD;
                    stack[top] = word >= 0 && word < words.length ? words[word] : element;
                    top++;
                } else if (element == NOT && top > 0) {
                    stack[top - 1] = 1 - stack[top - 1];
                } else if (top > 1) {
                    top--;
                    stack[top - 1] = joined(element, stack[top - 1], stack[top]);
                }
            }
            return stack[0];
        }

        private static long joined(int joint, long a, long b) {
            switch (joint) {
                case PLUS: return a + b;
                case MINUS: return a - b;
                case TIMES: return a * b;
                case BY: return b == 0 ? 0 : a / b;
                case BELOW: return a < b ? 1 : 0;
                case AT_MOST: return a <= b ? 1 : 0;
                case EQUAL: return a == b ? 1 : 0;
                case AT_LEAST: return a >= b ? 1 : 0;
                case ABOVE: return a > b ? 1 : 0;
                case AND: return a & b;
                default: return a | b;
            }
        }
    }

    /** A BARGE that goes BY A RULE, in the world or, for VOYAGES, in a copy of it. */
    private static final class Journey {
        private static final int BOOK = 0;
        private static final int WEIGHT = 1;
        private static final int SHELF = 2;
        private static final int WORTH = 3;
        private static final int DAMP = 4;
        private static final int WISH = 5;
        private static final int STOP = 6;
        private static final int DEPTH = 7;
        private static final int DRAUGHT = 8;
        private static final int WATER = 9;
        private static final int LOANS = 10;
        private static final int DAY = 11;

        final World trip = new World();
        private final long[] words = new long[12];
        private World world = trip;
        private Rule rule = null;
        private int barge = 0;
        private int keenest = NONE;
        private int x = 0;
        int lent = 0;
        int ashore = 0;
        int arrived = 0;

        void begin(World world, Rule rule, int barge) {
            this.world = world;
            this.rule = rule;
            this.barge = barge;
            lent = 0;
            ashore = 0;
            arrived = 0;
        }

        private int here() {
            return world.cell(World.AT, barge);
        }

        // Told anew whenever she lies otherwise: the DRAUGHT is the dearest word, and the same for all BOOKS.
        private void tellBarge() {
            words[STOP] = here();
            words[DEPTH] = world.depthOf(here() + 1);
            words[DRAUGHT] = world.draughtOf(barge);
            words[WATER] = world.cell(World.WATER, barge);
            words[DAY] = world.cell(World.DAY, 0);
        }

        private void tellBook(int book) {
            words[BOOK] = book;
            words[WEIGHT] = world.heavy(book);
            words[SHELF] = world.cell(World.SHELF, book);
            words[WORTH] = world.cell(World.WORTH, book);
            words[DAMP] = world.cell(World.DAMP, book);
            words[LOANS] = world.cell(World.LOANS, book);
            keenest = world.keenestReader(book, here());
            words[WISH] = keenest == NONE ? 0 : world.coins(keenest, book);
        }

        /** One STOP; false if that is the end of all. */
        boolean goOneStop() {
            if (rule == null || !world.hasBarge(barge)) {
                return false;
            }
            tellBarge();
            fetchByRule();
            shiftByRule();
            int next = here() + 1;
            if (!world.hasStop(next) || !lightenByRule(next)) {
                return false;
            }
            world.cells[World.AT + barge] = next;
            return true;
        }

        private void fetchByRule() {
            for (int book = 0; book < world.cells[World.BOOKS]; book++) {
                if (world.canFetch(book, barge)) {
                    tellBook(book);
                    if (rule.firstClause(Rule.FETCH, 1, words) != NONE) {
                        world.takeIn(book, barge, world.shelfOf(barge, world.cell(World.SHELF, book)));
                        tellBarge();
                    }
                }
            }
        }

        private void shiftByRule() {
            for (int book = 0; book < world.cells[World.BOOKS]; book++) {
                if (world.bargeOf(book) == barge) {
                    tellBook(book);
                    int clause = rule.firstClause(Rule.SHIFT, world.cell(World.SHELVES, barge), words);
                    if (clause != NONE && rule.part(clause, Rule.TO_SHELF) != world.cell(World.SHELF, book)) {
                        world.putAboard(book, barge, rule.part(clause, Rule.TO_SHELF));
                        tellBarge();
                    }
                }
            }
        }

        /** Lends and leaves till she PASSES; false if no BOOK is left for it. */
        private boolean lightenByRule(int next) {
            for (int turn = 0; turn <= World.MOST_BOOKS; turn++) {
                tellBarge();
                if (world.depthOf(next) >= words[DRAUGHT]) {
                    return true;
                }
                int book = bookByRule();
                if (book == NONE) {
                    return false;
                }
                tellBook(book);
                if (keenest != NONE) {
                    world.giveTo(keenest, book, barge);
                    lent++;
                } else {
                    world.putAshore(book, barge);
                    ashore++;
                }
            }
            return false;
        }

        private int bookByRule() {
            int first = NONE;
            long least = 0;
            for (int book = 0; book < world.cells[World.BOOKS]; book++) {
                if (world.bargeOf(book) == barge) {
                    tellBook(book);
                    int clause = rule.firstClause(Rule.LEND, 1, words);
                    long sum = clause == NONE ? 0 : rule.sum(clause, words);
                    if (clause != NONE && (first == NONE || sum < least)) {
                        first = book;
                        least = sum;
                    }
                }
            }
            return first;
        }

        private int draw() {
            x = (int) ((x * 1103515245L + 12345L) & 2147483647L);
            return x / 65536;
        }

        private void gnaw() {
            int books = world.cells[World.BOOKS];
            if (books <= 0) {
                return;
            }
            int book = draw() % books;
            if (world.bargeOf(book) == barge && world.cell(World.WEIGHT, book) > 1) {
                world.cells[World.WEIGHT + book]--;
            }
        }

        /** VOYAGES from a world; draws go on from one to the next. */
        void drawVoyages(World from, int m, int n, int p) {
            x = from.cell(World.X, 0);
            for (int voyage = 0; voyage < m; voyage++) {
                world.copy(from);
                boolean goesOn = true;
                for (int stops = 0; stops < n && goesOn; stops++) {
                    world.passNight();
                    if (draw() % 100 < p) {
                        world.wetAboard();
                    }
                    gnaw();
                    goesOn = goOneStop();
                }
                if (here() == from.cell(World.STOPS, 0) - 1) {
                    arrived++;
                }
            }
        }
    }

    /** LEFT: which BOOKS must stay behind. Sets come in the order of their bits, so only a better one is taken. */
    private static final class Leaving {
        private final int[] heavy = new int[World.MOST_BOOKS];
        private final int[] turn = new int[World.MOST_BOOKS];
        private final int[] worthOf = new int[World.MOST_BOOKS];
        private int stone = 1;
        private int lean = 1;
        private int depth = 0;
        private int bestSize = 0;
        int bestWorth = 0;
        int bestSet = 0;

        boolean find(World world, int barge, int stop) {
            stone = world.cell(World.STONE, barge);
            lean = world.cell(World.LEAN, barge);
            depth = BEYOND_ALL;
            for (int next = world.cell(World.AT, barge) + 1; next <= stop; next++) {
                depth = Math.min(depth, world.depthOf(next));
            }
            for (int book = 0; book < World.MOST_BOOKS; book++) {
                heavy[book] = world.bargeOf(book) == barge ? world.heavy(book) : 0;
                turn[book] = heavy[book] * world.arm(barge, world.cell(World.SHELF, book));
                worthOf[book] = world.cell(World.WORTH, book);
            }
            bestWorth = BEYOND_ALL;
            bestSize = 0;
            bestSet = NONE;
            search(world.cell(World.BOOKS, 0) - 1, world.loadOf(barge), world.tiltOf(barge), 0, 0, 0);
            return bestSet != NONE;
        }

        private void search(int book, int load, int tilt, int worth, int size, int set) {
            if (worth > bestWorth || worth == bestWorth && size >= bestSize) {
                return;
            }
            if (book < 0 || book >= World.MOST_BOOKS) {
                if (World.draughtBy(load, tilt, stone, lean) <= depth) {
                    bestWorth = worth;
                    bestSize = size;
                    bestSet = set;
                }
                return;
            }
            search(book - 1, load, tilt, worth, size, set);
            if (heavy[book] > 0) {
                search(book - 1, load - heavy[book], tilt - turn[book], worth + worthOf[book], size + 1,
                    set | 1 << book);
            }
        }
    }

    /** LENDING: rows come in their order, so only one of more COINS is taken. */
    private static final class Lending {
        private final int[] gains = new int[World.MOST_READERS * World.MOST_BOOKS];
        private final int[] atMost = new int[World.MOST_READERS + 1];
        private final int[] home = new int[World.MOST_READERS];
        private final int[] heavy = new int[World.MOST_BOOKS];
        private final int[] turn = new int[World.MOST_BOOKS];
        private final int[] depths = new int[World.MOST_STOPS];
        private final int[] lessLoad = new int[World.MOST_STOPS];
        private final int[] lessTilt = new int[World.MOST_STOPS];
        private final int[] row = new int[World.MOST_READERS];
        final int[] best = new int[World.MOST_READERS];
        private int bestCoins = NONE;
        private int first = 0;
        private int last = 0;
        private int load = 0;
        private int tilt = 0;
        private int stone = 1;
        private int lean = 1;

        /** The most COINS up to a STOP, each DEPTH so much more, without a READER (or NONE); NONE: it can't be. */
        int mostCoins(World world, int barge, int last, int moreDepth, int without) {
            first = world.cell(World.AT, barge);
            this.last = last;
            load = world.loadOf(barge);
            tilt = world.tiltOf(barge);
            stone = world.cell(World.STONE, barge);
            lean = world.cell(World.LEAN, barge);
            for (int stop = 0; stop < World.MOST_STOPS; stop++) {
                depths[stop] = world.depthOf(stop) + moreDepth;
                lessLoad[stop] = 0;
                lessTilt[stop] = 0;
            }
            for (int book = 0; book < World.MOST_BOOKS; book++) {
                heavy[book] = world.bargeOf(book) == barge ? world.heavy(book) : 0;
                turn[book] = heavy[book] * world.arm(barge, world.cell(World.SHELF, book));
            }
            for (int reader = World.MOST_READERS - 1; reader >= 0; reader--) {
                atMost[reader] = atMost[reader + 1] + noteGains(world, reader, reader == without);
                row[reader] = NONE;
                best[reader] = NONE;
            }
            bestCoins = NONE;
            search(0, 0, 0);
            return bestCoins;
        }

        /** Notes what each BOOK would bring of a READER, 0 where it can't be; answers the most of these. */
        private int noteGains(World world, int reader, boolean isOut) {
            int stop = world.cell(World.HOME, reader);
            home[reader] = stop;
            boolean canLend = world.hasReader(reader) && !isOut && world.cell(World.HAS, reader) == NONE
                && stop >= first && stop <= last;
            int most = 0;
            for (int book = 0; book < World.MOST_BOOKS; book++) {
                int gain = canLend && heavy[book] > 0 ? world.coins(reader, book) : 0;
                gains[reader * World.MOST_BOOKS + book] = gain;
                most = Math.max(most, gain);
            }
            return most;
        }

        private void search(int reader, int coins, int used) {
            if (reader < 0 || reader >= World.MOST_READERS) {
                if (coins > bestCoins && passesAll()) {
                    bestCoins = coins;
                    System.arraycopy(row, 0, best, 0, World.MOST_READERS);
                }
                return;
            }
            if (coins + atMost[reader] <= bestCoins) {
                return;
            }
            search(reader + 1, coins, used);
            int stop = home[reader];
            boolean canGain = atMost[reader] > atMost[reader + 1] && stop >= 0 && stop < World.MOST_STOPS;
            for (int book = 0; canGain && book < World.MOST_BOOKS; book++) {
                int gain = gains[reader * World.MOST_BOOKS + book];
                if (gain > 0 && (used >> book & 1) == 0) {
                    row[reader] = book;
                    lessLoad[stop] += heavy[book];
                    lessTilt[stop] += turn[book];
                    search(reader + 1, coins + gain, used | 1 << book);
                    lessLoad[stop] -= heavy[book];
                    lessTilt[stop] -= turn[book];
                }
            }
            row[reader] = NONE;
        }

        private boolean passesAll() {
            int loadHere = load;
            int tiltHere = tilt;
            for (int stop = Math.max(first, 0); stop < last && stop + 1 < World.MOST_STOPS; stop++) {
                loadHere -= lessLoad[stop];
                tiltHere -= lessTilt[stop];
                if (World.draughtBy(loadHere, tiltHere, stone, lean) > depths[stop + 1]) {
                    return false;
                }
            }
            return true;
        }
    }

    /** MEETING: sets come in the order of their bits, so only one of fewer BOOKS is taken. */
    private static final class Meeting {
        private final int[] heavy = new int[World.MOST_BOOKS];
        private final int[] turn0 = new int[World.MOST_BOOKS];
        private final int[] turn1 = new int[World.MOST_BOOKS];
        private int stone0 = 1;
        private int lean0 = 1;
        private int depth0 = 0;
        private int stone1 = 1;
        private int lean1 = 1;
        private int depth1 = 0;
        private int bestSize = 0;
        int bestSet = NONE;

        boolean find(World world) {
            int stop = world.cell(World.AT, 0);
            depth0 = world.hasStop(stop + 1) ? world.depthOf(stop + 1) : BEYOND_ALL;
            depth1 = world.hasStop(stop - 1) ? world.depthOf(stop - 1) : BEYOND_ALL;
            stone0 = world.cell(World.STONE, 0);
            stone1 = world.cell(World.STONE, 1);
            lean0 = world.cell(World.LEAN, 0);
            lean1 = world.cell(World.LEAN, 1);
            for (int book = 0; book < World.MOST_BOOKS; book++) {
                int barge = world.bargeOf(book);
                int shelf = world.cell(World.SHELF, book);
                // What goes from BARGE 0 to BARGE 1: below 0 where it goes the other way.
                heavy[book] = barge == NONE ? 0 : world.heavy(book) * (1 - 2 * barge);
                turn0[book] = heavy[book] * world.arm(0, world.shelfOf(0, shelf));
                turn1[book] = heavy[book] * world.arm(1, world.shelfOf(1, shelf));
            }
            bestSize = World.MOST_BOOKS + 1;
            bestSet = NONE;
            search(world.cell(World.BOOKS, 0) - 1, world.loadOf(0), world.tiltOf(0), world.loadOf(1),
                world.tiltOf(1), 0, 0);
            return bestSet != NONE;
        }

        private void search(int book, int load0, int tilt0, int load1, int tilt1, int size, int set) {
            if (size >= bestSize) {
                return;
            }
            if (book < 0 || book >= World.MOST_BOOKS) {
                if (World.draughtBy(load0, tilt0, stone0, lean0) <= depth0
                    && World.draughtBy(load1, tilt1, stone1, lean1) <= depth1) {
                    bestSize = size;
                    bestSet = set;
                }
                return;
            }
            search(book - 1, load0, tilt0, load1, tilt1, size, set);
            if (heavy[book] != 0) {
                search(book - 1, load0 - heavy[book], tilt0 - turn0[book], load1 + heavy[book], tilt1 + turn1[book],
                    size + 1, set | 1 << book);
            }
        }
    }

    /** ABOARD: which sets of BOOKS would make her lie so. */
    private static final class Cargo {
        private final int[] heavy = new int[World.MOST_BOOKS];
        private final int[] turn = new int[World.MOST_BOOKS];
        private int stone = 1;
        private int lean = 1;
        private int draught = 0;
        private int tiltWanted = 0;
        private boolean isAnyTilt = false;
        private int some = 0;
        int found = 0;
        int inAll = 0;
        int inNone = 0;

        void find(World world, int barge, int draught, int tiltWanted, boolean isAnyTilt) {
            this.draught = draught;
            this.tiltWanted = tiltWanted;
            this.isAnyTilt = isAnyTilt;
            stone = world.cell(World.STONE, barge);
            lean = world.cell(World.LEAN, barge);
            int candidates = noteCandidates(world, barge);
            found = 0;
            some = 0;
            inAll = candidates;
            int empty = world.cell(World.OWN, barge) + world.cell(World.WATER, barge);
            search(world.cell(World.BOOKS, 0) - 1, empty, 0, 0);
            inNone = candidates & ~some;
        }

        private int noteCandidates(World world, int barge) {
            int candidates = 0;
            for (int book = 0; book < World.MOST_BOOKS; book++) {
                heavy[book] = 0;
                boolean isGone = world.cell(World.WHERE, book) == World.GONE;
                if (world.hasBook(book) && !isGone && world.bargeOf(book) != 1 - barge) {
                    heavy[book] = world.heavy(book);
                    candidates |= 1 << book;
                }
                int shelf = world.shelfOf(barge, world.cell(World.SHELF, book));
                turn[book] = heavy[book] * world.arm(barge, shelf);
            }
            return candidates;
        }

        // More BOOKS only make her heavier, so a set that is too heavy ends the search there.
        private void search(int book, int load, int tilt, int set) {
            if (load > draught * stone) {
                return;
            }
            if (book < 0 || book >= World.MOST_BOOKS) {
                if ((isAnyTilt || tilt == tiltWanted) && World.draughtBy(load, tilt, stone, lean) == draught) {
                    found++;
                    inAll &= set;
                    some |= set;
                }
                return;
            }
            search(book - 1, load, tilt, set);
            if (heavy[book] > 0) {
                search(book - 1, load + heavy[book], tilt + turn[book], set | 1 << book);
            }
        }
    }

    /** PLUGS: rows come in their order, so only one of less WORTH is taken. */
    private static final class Plugging {
        private final boolean[] isNeeded = new boolean[World.MOST_HOLES];
        private final int[] fitting = new int[World.MOST_HOLES];
        private final int[] worthOf = new int[World.MOST_BOOKS];
        private final int[] row = new int[World.MOST_HOLES];
        final int[] best = new int[World.MOST_HOLES];
        int bestWorth = 0;

        boolean find(World world, int barge) {
            for (int hole = 0; hole < World.MOST_HOLES; hole++) {
                isNeeded[hole] = world.isOpen(hole) && world.cell(World.HOLE_BARGE, hole) == barge;
                fitting[hole] = 0;
                for (int book = 0; book < World.MOST_BOOKS; book++) {
                    if (world.fits(book, hole)) {
                        fitting[hole] |= 1 << book;
                    }
                }
            }
            for (int book = 0; book < World.MOST_BOOKS; book++) {
                worthOf[book] = world.cell(World.WORTH, book);
            }
            bestWorth = BEYOND_ALL;
            search(0, 0, 0);
            return bestWorth != BEYOND_ALL;
        }

        private void search(int hole, int worth, int used) {
            if (worth >= bestWorth) {
                return;
            }
            if (hole < 0 || hole >= World.MOST_HOLES) {
                bestWorth = worth;
                System.arraycopy(row, 0, best, 0, World.MOST_HOLES);
                return;
            }
            row[hole] = NONE;
            if (!isNeeded[hole]) {
                search(hole + 1, worth, used);
                return;
            }
            for (int book = 0; book < World.MOST_BOOKS; book++) {
                if ((fitting[hole] & ~used & 1 << book) != 0) {
                    row[hole] = book;
                    search(hole + 1, worth + worthOf[book], used | 1 << book);
                }
            }
        }
    }
}
