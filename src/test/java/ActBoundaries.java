/** The bounds of what is seen and done: how a BARGE lies, ACTS, UNDO, and a BARGE that goes BY A RULE. */
final class ActBoundaries extends Boundaries {
    private static final int TERMS = Sentences.TERMS;
    private static final String ONE = "barge 1 0 1 1;";

    ActBoundaries(Sentences sentences) {
        super(sentences);
    }

    void all() {
        seasons();
        howSheLies();
        book();
        stop();
        readerAndWish();
        lies();
        leave();
        lend();
        fetch();
        shift();
        hand();
        sail();
        night();
        rain();
        pump();
        plug();
        undo();
        run();
        fetchByRule();
        shiftByRule();
        lendByRule();
        onByRule();
    }

    // ---- how a BARGE lies

    private void seasons() {
        says(TERMS, "The season is DAY / 90 mod 4; a STOP has that of its DEPTHS (if fewer were told, the last one).");
        river(ONE + "stop 1;stop 1 2;stop 1 2 3;stop 1 2 3 4");
        int[] days = {0, 89, 90, 179, 180, 269, 270, 359, 360, 449, 450};
        int[] seasons = {0, 0, 1, 1, 2, 2, 3, 3, 0, 0, 1};
        for (int i = 0; i < days.length; i++) {
            nights(days[i] - told.call("count", 6));
            for (int stop = 0; stop < 4; stop++) is(1 + Math.min(seasons[i], stop), "stop", stop, 0);
        }
    }

    private void howSheLies() {
        says(TERMS, "LOAD is her own WEIGHT, that of all BOOKS ABOARD her with their DAMP, and the WATER in her;");
        river("barge 1 0 1 1;barge 1 0 1 1;stop 9");
        is(0, "lies", 0, 0);
        river("barge 1 50 1 1;barge 1 0 1 1;book 3 0 0 0;book 4 0 0 0;book 7 0 1 0;stop 9;hole 0 20");
        is(57, "lies", 0, 0);
        is(7, "lies", 1, 0);
        is(3, "rain");
        is(1, "night");
        is(79, "lies", 0, 0);
        is(8, "lies", 1, 0);
        told.call("leave", 0);
        is(75, "lies", 0, 0);
        says(TERMS, "TILT is the sum, of these BOOKS, of WEIGHT with DAMP times the ARM of the SHELF: 2 times its number, less"
            + " SHELVES, and 1.");
        river("barge 8 50 1 999;barge 1 0 1 1;book 3 0 0 0;book 9 0 1 0;stop 9;hole 0 20");
        for (int shelf = 0; shelf < 8; shelf++) {
            told.call("shift", 0, shelf);
            is(3 * (2 * shelf - 7), "lies", 0, 1);
        }
        is(0, "lies", 1, 1);
        is(2, "rain");
        is(1, "night");
        is(28, "lies", 0, 1);
        river("barge 2 0 1 1;book 3 0 0 0;book 3 0 0 1;book 5 0 0 0;stop 9");
        is(-5, "lies", 0, 1);
        says(TERMS, "DRAUGHT: LOAD / STONE to the INCH, upwards, and TILT (as if above 0) / LEAN, downwards, together.");
        int[][] loads = {{0, 9, 0}, {1, 9, 1}, {8, 9, 1}, {9, 9, 1}, {10, 9, 2}, {9999, 99, 101}, {98, 99, 1}, {7, 1, 7}};
        for (int[] one : loads) {
            river("barge 1 " + one[0] + " " + one[1] + " 1;stop 9");
            is(one[2], "lies", 0, 2);
        }
        int[][] tilts = {{4, 5, 0}, {5, 5, 1}, {9, 5, 1}, {10, 5, 2}, {99, 999, 0}, {7, 1, 7}};
        for (int[] one : tilts) {
            river("barge 2 0 99 " + one[1] + ";book " + one[0] + " 0 0 0;stop 9");
            is(1 + one[2], "lies", 0, 2);
            is(1 + one[2], "shift", 0, 1);
        }
        says(TERMS, "She PASSES a STOP if its DEPTH is DRAUGHT at least.");
        river("barge 1 5 1 1;barge 1 6 1 1;stop 4;stop 5;stop 6;stop 7");
        int[] passes0 = {0, 1, 1, 1};
        int[] passes1 = {0, 0, 1, 1};
        for (int stop = 0; stop < 4; stop++) {
            is(passes0[stop], "stop", stop, 2);
            is(passes1[stop], "stop", stop, 3);
        }
    }

    // ---- what is seen

    private void wrongNumbers(int answer, String call, int numbers, int whats) {
        for (int number : new int[] {numbers, -1, LEAST, MOST}) stays(answer, call, number, 0);
        for (int what : new int[] {whats, -1, LEAST, MOST}) stays(answer, call, 0, what);
    }

    private void book() {
        says(6, "Of a BOOK what 0: WEIGHT (without DAMP), 1: SHELF (where it stands, or stood last), 2: WORTH, 3: DAMP, 4: where"
            + " it is (100, 101 ABOARD a BARGE, 0 to 7 LEFT at a STOP, 200 and more with a READER, 300 gone), 5: how often it"
            + " was LENT, 6: the DAY on which it can be FETCHED from its READER (NONE: he has it not).");
        busy();
        int[][] due = {{8, 0, 5, 1, 100, 0, NONE}, {6, 2, 9, 1, 100, 0, NONE}, {3, 1, 1, 0, 0, 0, NONE},
            {7, 0, 2, 1, 101, 0, NONE}, {9, 1, 4, 0, 300, 0, NONE}, {2, 1, 3, 0, 200, 1, 5}, {1, 1, 0, 0, 3, 0, NONE}};
        for (int book = 0; book < due.length; book++) {
            for (int what = 0; what <= 6; what++) stays(due[book][what], "book", book, what);
        }
        nights(4);
        is(5, "book", 5, 6);
        told.call("fetch", 5, 0, 2);
        is(NONE, "book", 5, 6);
        is(2, "book", 5, 1);
        is(2, "book", 5, 3);
        told.call("lend", 5, 1);
        is(2, "book", 5, 5);
        is(6, "book", 5, 6);
        is(201, "book", 5, 4);
        river(ONE + ONE + "book 1 0 1 0;book 1 0 1 0" + times(8, ";stop 9") + times(6, ";reader 7 0 1"));
        told.call("leave", 0);
        is(7, "book", 0, 4);
        told.call("lend", 1, 5);
        is(205, "book", 1, 4);
        says(6, "NONE without these.");
        busy();
        wrongNumbers(NONE, "book", 8, 7);
        river(ONE + "stop 9");
        none("book", 0, 0);
    }

    private void stop() {
        says(7, "Of a STOP what 0: DEPTH now, 1: BOOKS that are LEFT there, as bits, 2, 3: 1 if BARGE 0, 1 PASSES it as she lies,"
            + " else 0 (NONE without her), 4: READERS there, as bits.");
        busy();
        int[][] due = {{30, 4, 1, 1, 4}, {30, 0, 1, 1, 3}, {30, 0, 1, 1, 0}, {5, 64, 0, 1, 0}};
        for (int stop = 0; stop < 4; stop++) {
            for (int what = 0; what <= 4; what++) stays(due[stop][what], "stop", stop, what);
        }
        river(ONE + "stop 9" + times(12, ";book 1 0 0 0") + times(6, ";reader 0 0 1"));
        is(0, "stop", 0, 1);
        for (int book = 0; book < 12; book++) {
            told.call("leave", book);
            is((2 << book) - 1, "stop", 0, 1);
        }
        is(63, "stop", 0, 4);
        is(1, "stop", 0, 2);
        stays(NONE, "stop", 0, 3);
        says(7, "NONE without these.");
        busy();
        wrongNumbers(NONE, "stop", 4, 5);
    }

    private void readerAndWish() {
        says(8, "Of a READER what 0: STOP, 1: THUMB, 2: DAYS, 3: the BOOK he has (NONE), 4: how many he was LENT.");
        busy();
        int[][] due = {{1, 2, 5, 5, 1}, {1, 0, 1, NONE, 0}, {0, 9, 99, NONE, 0}};
        for (int reader = 0; reader < 3; reader++) {
            for (int what = 0; what <= 4; what++) stays(due[reader][what], "reader", reader, what);
        }
        nights(4);
        told.call("fetch", 5, 0, 0);
        is(NONE, "reader", 0, 3);
        is(1, "reader", 0, 4);
        told.call("lend", 0, 0);
        is(0, "reader", 0, 3);
        is(2, "reader", 0, 4);
        says(8, "NONE without these.");
        busy();
        wrongNumbers(NONE, "reader", 3, 5);
        river(ONE + "stop 9");
        none("reader", 0, 0);
        says(9, "COINS of a WISH (0 none);");
        busy();
        stays(20, "wish", 0, 1);
        stays(5, "wish", 1, 0);
        stays(0, "wish", 0, 0);
        stays(0, "wish", 2, 7);
        says(9, "NONE without these.");
        wrongNumbers(NONE, "wish", 3, 8);
    }

    private void lies() {
        says(10, "Of a BARGE what 0: LOAD, 1: TILT, 2: DRAUGHT, 3: WATER, 4: the STOP she is AT, 5: COINS she earned (of each BOOK"
            + " LENT from her the WISH), 6: SHELVES;");
        busy();
        int[][] due = {{36, -4, 9, 5, 1, 0, 3}, {10, -8, 1, 2, 3, 0, 2}};
        for (int barge = 0; barge < 2; barge++) {
            for (int what = 0; what <= 6; what++) stays(due[barge][what], "lies", barge, what);
        }
        told.call("lend", 0, 1);
        is(5, "lies", 0, 5);
        is(0, "lies", 1, 5);
        nights(5);
        told.call("fetch", 0, 0, 0);
        is(5, "lies", 0, 5);
        told.call("lend", 0, 1);
        is(10, "lies", 0, 5);
        river(ONE + ONE + "book 1 0 1 0;stop 9;reader 0 0 1;wish 0 0 99");
        told.call("lend", 0, 0);
        is(99, "lies", 1, 5);
        is(0, "lies", 0, 5);
        says(10, "-1000000 without these.");
        busy();
        wrongNumbers(FAR_OFF, "lies", 2, 7);
        river(ONE + "stop 9");
        stays(FAR_OFF, "lies", 1, 0);
        says(21, "Of a HOLE what 0: the BARGE, 1: WATER, 2: 1 if it is STOPPED, else 0.");
        busy();
        int[][] holes = {{0, 5, 0}, {0, 3, 1}, {1, 2, 0}};
        for (int hole = 0; hole < 3; hole++) {
            for (int what = 0; what <= 2; what++) stays(holes[hole][what], "hole", hole, what);
        }
        says(21, "NONE without these.");
        wrongNumbers(NONE, "hole", 3, 3);
    }

    // ---- ACTS

    private void leave() {
        says(TERMS, "LEAVE a BOOK that is ABOARD at the STOP where its BARGE is.");
        busy();
        undone(9, "leave", 0);
        told.call("leave", 0);
        is(1, "book", 0, 4);
        told.call("leave", 3);
        is(3, "book", 3, 4);
        says(11, "LEAVE: DRAUGHT of its BARGE then;");
        busy();
        is(9, "leave", 0);
        is(1, "leave", 3);
        is(4, "leave", 1);
        says(11, "NONE, and nothing happens: it is not ABOARD.");
        busy();
        for (int book : new int[] {2, 6, 5, 4, 8, -1, LEAST, MOST}) none("leave", book);
    }

    private void lend() {
        says(TERMS, "LEND it to a READER at that STOP who has none: he has it for his DAYS (till DAY is so many more).");
        busy();
        undone(9, "lend", 0, 1);
        for (int days : new int[] {1, 99}) {
            river(ONE + "book 1 0 0 0;stop 9;reader 0 0 " + days);
            nights(3);
            is(0, "lend", 0, 0);
            is(3 + days, "book", 0, 6);
            nights(days - 1);
            none("fetch", 0, 0, 0);
            nights(1);
            is(1, "fetch", 0, 0, 0);
        }
        says(12, "LEND: DRAUGHT of its BARGE then;");
        busy();
        is(9, "lend", 0, 1);
        met();
        is(2, "lend", 0, 0);
        met();
        is(0, "lend", 2, 0);
        says(12, "NONE, and nothing happens, without these (not ABOARD; the READER not there, or has one).");
        busy();
        for (int book : new int[] {2, 6, 5, 4, 8, -1, LEAST, MOST}) none("lend", book, 1);
        none("lend", 2, 2);
        for (int reader : new int[] {0, 2, 3, -1, LEAST, MOST}) none("lend", 0, reader);
        none("lend", 3, 1);
        none("lend", 3, 2);
    }

    private void fetch() {
        says(TERMS, "FETCH to a SHELF of a BARGE one that lies at her STOP, or that a READER there has whose DAYS are over: of that"
            + " one DAMP grows by THUMB (9 at most).");
        busy();
        undone(3, "fetch", 6, 1, 0);
        nights(4);
        undone(15, "fetch", 5, 0, 0);
        int[][] due = {{0, 9, 9}, {1, 9, 9}, {8, 1, 9}, {9, 0, 9}, {9, 9, 9}, {0, 8, 8}, {7, 1, 8}, {3, 0, 3}};
        for (int[] one : due) {
            river(ONE + "book 1 0 0 0;stop 99;reader 0 " + one[1] + " 1");
            for (int i = 0; i < one[0]; i++) told.call("rain");
            told.call("lend", 0, 0);
            nights(1);
            is(1 + one[2], "fetch", 0, 0, 0);
            is(one[2], "book", 0, 3);
        }
        river(ONE + "book 1 0 0 0;stop 99;reader 0 9 1");
        told.call("leave", 0);
        is(1, "fetch", 0, 0, 0);
        is(0, "book", 0, 3);
        says(13, "FETCH: DRAUGHT of the BARGE then;");
        busy();
        is(2, "fetch", 6, 1, 1);
        is(1, "book", 6, 1);
        is(101, "book", 6, 4);
        met();
        is(6, "fetch", 3, 0, 2);
        is(2, "book", 3, 1);
        says(13, "NONE, and nothing happens, without these (it can't be).");
        busy();
        for (int book : new int[] {0, 1, 2, 3, 4, 5, 6, 8, -1, LEAST, MOST}) none("fetch", book, 0, 0);
        for (int shelf : new int[] {2, -1, LEAST, MOST}) none("fetch", 6, 1, shelf);
        for (int barge : new int[] {2, -1, LEAST, MOST}) none("fetch", 6, barge, 0);
        nights(3);
        none("fetch", 5, 0, 0);
        nights(1);
        none("fetch", 5, 1, 0);
        none("fetch", 5, 0, 3);
        told.call("sail", 0, ON);
        none("fetch", 5, 0, 0);
        told.call("sail", 0, BACK);
        is(15, "fetch", 5, 0, 0);
    }

    private void shift() {
        says(TERMS, "SHIFT one that is ABOARD to another SHELF.");
        busy();
        undone(11, "shift", 0, 1);
        says(14, "SHIFT: DRAUGHT then;");
        is(16, "shift", 0, 2);
        is(2, "book", 0, 1);
        is(1, "shift", 3, 1);
        is(1, "book", 3, 1);
        says(14, "NONE, and nothing happens, without these (not ABOARD, the SHELF it is on).");
        busy();
        for (int shelf : new int[] {0, 3, -1, LEAST, MOST}) none("shift", 0, shelf);
        for (int shelf : new int[] {0, 2, -1}) none("shift", 3, shelf);
        for (int book : new int[] {2, 6, 5, 4, 8, -1, LEAST, MOST}) none("shift", book, 0);
    }

    private void hand() {
        says(TERMS, "HAND one over to a SHELF of the other BARGE, if both are AT one STOP.");
        met();
        undone(7, "hand", 0, 0);
        undone(9, "hand", 2, 2);
        says(15, "HAND over: DRAUGHT of the one that has it then;");
        is(7, "hand", 0, 1);
        is(101, "book", 0, 4);
        is(1, "book", 0, 1);
        is(6, "hand", 2, 2);
        is(100, "book", 2, 4);
        is(2, "book", 2, 1);
        says(15, "NONE, and nothing happens, without these (it can't be).");
        met();
        for (int shelf : new int[] {2, -1, LEAST, MOST}) none("hand", 0, shelf);
        none("hand", 2, 3);
        for (int book : new int[] {3, 4, 5, -1, LEAST, MOST}) none("hand", book, 0);
        told.call("lend", 0, 0);
        none("hand", 0, 0);
        told.call("sail", 0, ON);
        none("hand", 1, 0);
        busy();
        none("hand", 0, 0);
        none("hand", 3, 0);
        river(ONE + "book 1 0 0 0;stop 9");
        none("hand", 0, 0);
    }

    private void sail() {
        says(TERMS, "ON to the next STOP, BACK to the one ahead, if she PASSES that.");
        busy();
        undone(2, "sail", 0, ON);
        undone(0, "sail", 0, BACK);
        undone(2, "sail", 1, BACK);
        says(16, "ON, or BACK: the STOP;");
        is(2, "sail", 0, ON);
        is(2, "lies", 0, 4);
        is(3, "lies", 1, 4);
        is(1, "sail", 0, BACK);
        is(0, "sail", 0, BACK);
        is(2, "sail", 1, BACK);
        is(3, "sail", 1, ON);
        says(16, "NONE, and nothing happens: there is none, or she does not PASS it, or no BARGE.");
        none("sail", 0, BACK);
        none("sail", 1, ON);
        for (int barge : new int[] {2, -1, LEAST, MOST}) {
            none("sail", barge, ON);
            none("sail", barge, BACK);
        }
        river("barge 1 5 1 1;stop 4;stop 5;stop 4;stop 9");
        is(1, "sail", 0, ON);
        none("sail", 0, ON);
        none("sail", 0, BACK);
        river("barge 1 5 1 1;stop 5;stop 6");
        none("sail", 1, ON);
        is(1, "sail", 0, ON);
        is(0, "sail", 0, BACK);
        river(ONE + "stop 9");
        none("sail", 0, ON);
        none("sail", 0, BACK);
    }

    private void night() {
        says(TERMS, "NIGHT: DAY is 1 more (9999 at most), each HOLE that is not STOPPED lets its WATER in (9999 at most in a"
            + " BARGE).");
        busy();
        undone(2, "night");
        is(2, "night");
        is(10, "lies", 0, 3);
        is(4, "lies", 1, 3);
        river(ONE + ONE + "stop 9;hole 0 99;hole 1 99;hole 1 1");
        nights(99);
        is(9801, "lies", 0, 3);
        is(9900, "lies", 1, 3);
        is(100, "night");
        is(9900, "lies", 0, 3);
        is(9999, "lies", 1, 3);
        is(101, "night");
        is(9999, "lies", 0, 3);
        is(9999, "lies", 1, 3);
        is(102, "night");
        is(9999, "lies", 0, 3);
        is(9999, "lies", 0, 0);
        says(17, "NIGHT: the DAY;");
        river(ONE + "stop 9");
        is(1, "night");
        is(2, "night");
        says(17, "NONE, and nothing happens, without a RIVER, or on DAY 9999.");
        fresh();
        none("night");
        // It takes more calls than are promised; the class does not count them.
        river(ONE + "stop 9;hole 0 1");
        nights(9998);
        is(9998, "lies", 0, 3);
        is(9999, "night");
        none("night");
        is(9999, "count", 6);
        is(9999, "pump", 0);
        none("night");
        is(0, "lies", 0, 3);
    }

    private void rain() {
        says(TERMS, "RAIN: DAMP of all BOOKS ABOARD is 1 more (9 at most).");
        busy();
        undone(4, "rain");
        for (int damp = 2; damp <= 9; damp++) {
            is(4, "rain");
            for (int book : new int[] {0, 1, 3, 7}) is(damp, "book", book, 3);
            for (int book : new int[] {2, 4, 5, 6}) is(0, "book", book, 3);
        }
        none("rain");
        is(9, "book", 0, 3);
        says(18, "RAIN: how many BOOKS have more DAMP;");
        is(3, "fetch", 6, 1, 1);
        is(1, "rain");
        is(9, "book", 0, 3);
        is(1, "book", 6, 3);
        river(ONE + "stop 9" + times(12, ";book 1 0 0 0"));
        is(12, "rain");
        says(18, "NONE, and nothing happens: none has.");
        fresh();
        none("rain");
        river(ONE + "stop 9");
        none("rain");
        river(ONE + "book 1 0 0 0;book 1 0 0 0;stop 9;reader 0 0 1");
        told.call("leave", 0);
        is(1, "rain");
        told.call("lend", 1, 0);
        none("rain");
    }

    private void pump() {
        says(TERMS, "PUMP: no WATER is in a BARGE.");
        busy();
        undone(5, "pump", 0);
        undone(2, "pump", 1);
        says(19, "PUMP: how much WATER there was;");
        is(5, "pump", 0);
        is(0, "lies", 0, 3);
        is(2, "lies", 1, 3);
        is(2, "pump", 1);
        is(0, "lies", 1, 3);
        says(19, "NONE, and nothing happens: there is none, or no BARGE.");
        none("pump", 0);
        none("pump", 1);
        busy();
        for (int barge : new int[] {2, -1, LEAST, MOST}) none("pump", barge);
    }

    private void plug() {
        says(TERMS, "PLUG a HOLE with a BOOK that is ABOARD its BARGE, whose WEIGHT (without DAMP) is the HOLE's WATER at least: the"
            + " BOOK is gone for good, the HOLE is STOPPED.");
        busy();
        undone(9, "plug", 0, 0);
        river(ONE + "book 4 0 0 0;book 5 0 0 0;stop 99;hole 0 5");
        for (int i = 0; i < 9; i++) told.call("rain");
        none("plug", 0, 0);
        is(13, "plug", 0, 1);
        is(300, "book", 1, 4);
        is(1, "hole", 0, 2);
        is(1, "night");
        is(0, "lies", 0, 3);
        none("leave", 1);
        none("fetch", 1, 0, 0);
        says(20, "PLUG: DRAUGHT of the BARGE then;");
        busy();
        is(9, "plug", 0, 0);
        is(1, "plug", 2, 3);
        says(20, "NONE, and nothing happens, without these (it can't be, or is STOPPED).");
        busy();
        for (int book : new int[] {2, 3, 4, 5, 6, 7, 8, -1, LEAST, MOST}) none("plug", 0, book);
        for (int hole : new int[] {1, 3, -1, LEAST, MOST}) none("plug", hole, 0);
        none("plug", 2, 0);
        none("plug", 1, 7);
    }

    private void undo() {
        says(TERMS, "Each ACT that does something can be UNDONE, the last first (20 at most are kept; of more the eldest is"
            + " forgotten).");
        river(ONE + "stop 9");
        for (int acts = 1; acts <= 20; acts++) {
            is(acts, "night");
            is(acts, "count", 11);
        }
        is(21, "night");
        is(20, "count", 11);
        is(22, "night");
        is(20, "count", 11);
        for (int acts = 19; acts >= 0; acts--) {
            is(acts, "undo");
            is(acts + 2, "count", 6);
        }
        none("undo");
        is(2, "count", 6);
        for (int acts = 1; acts <= 21; acts++) is(acts + 2, "night");
        is(19, "undo");
        is(22, "count", 6);
        says(22, "The last ACT is UNDONE: how many more can be;");
        busy();
        is(6, "undo");
        is(0, "book", 0, 3);
        is(5, "undo");
        is(101, "book", 6, 4);
        is(4, "undo");
        is(0, "count", 6);
        is(0, "lies", 0, 3);
        is(3, "undo");
        is(100, "book", 5, 4);
        is(2, "undo");
        is(0, "lies", 0, 4);
        is(1, "undo");
        is(100, "book", 4, 4);
        is(0, "hole", 1, 2);
        is(0, "undo");
        is(100, "book", 2, 4);
        is(77, "count", 12);
        is(2, "count", 5);
        is(15, "count", 13);
        // What is no ACT is not UNDONE with one.
        is(1, "night");
        is(77, "seed", 9);
        is(1, "image", 1);
        is(15, "end", 15);
        is(0, "undo");
        is(9, "count", 12);
        is(15, "count", 13);
        is(1, "back", 1);
        is(0, "back", 0);
        says(22, "NONE, and nothing happens: none can.");
        none("undo");
        is(1, "night");
        is(0, "undo");
        none("undo");
        fresh();
        none("undo");
        river(ONE + "stop 9");
        none("undo");
    }

    // ---- BY A RULE

    private void run() {
        says(23, "BY A RULE n STOPS (1 to 8) of a BARGE: the STOP she is AT then;");
        river("barge 2 0 1 1;book 1 0 0 0" + times(8, ";stop 9"), "shift 1 if stop=7");
        is(1, "run", 0, 0, 1);
        is(3, "run", 0, 0, 2);
        told.call("image", 0);
        is(7, "run", 0, 0, 4);
        is(0, "book", 0, 1);
        is(0, "back", 0);
        is(7, "run", 0, 0, 5);
        is(1, "book", 0, 1);
        river("barge 2 0 1 1;book 1 0 0 0" + times(8, ";stop 9"), "shift 1 if stop=7");
        told.call("image", 0);
        is(7, "run", 0, 0, 7);
        is(0, "book", 0, 1);
        told.call("back", 0);
        is(7, "run", 0, 0, 8);
        is(1, "book", 0, 1);
        says(23, "NONE, and nothing happens, without these.");
        busy();
        for (int rule : new int[] {2, -1, LEAST, MOST}) none("run", rule, 0, 1);
        for (int barge : new int[] {2, -1, LEAST, MOST}) none("run", 0, barge, 1);
        for (int n : new int[] {0, 9, -1, LEAST, MOST}) none("run", 0, 0, n);
        says(TERMS, "(These can't be UNDONE: nothing that was done ahead of them can, either.)");
        is(7, "count", 11);
        is(2, "run", 0, 0, 1);
        is(0, "count", 11);
        none("undo");
        is(2, "night");
        is(0, "undo");
        none("undo");
        is(2, "lies", 0, 4);
    }

    private void fetchByRule() {
        says(TERMS, "BY A RULE a BARGE, n STOPS: so often: (1) each BOOK that could be FETCHED (by numbers), for which some fetch TEST"
            + " holds, is, to the SHELF it stood on last (or her last one, if she has not so many).");
        river("barge 2 0 1 99;barge 4 0 1 99;book 5 0 1 0;book 5 0 1 1;book 2 0 1 2;book 3 0 1 3;book 1 0 1 3;stop 99",
            "fetch weight=9;fetch weight>1");
        for (int book = 0; book < 5; book++) told.call("leave", book);
        is(0, "run", 0, 0, 1);
        int[] shelves = {0, 1, 1, 1};
        for (int book = 0; book < 4; book++) {
            is(100, "book", book, 4);
            is(shelves[book], "book", book, 1);
        }
        is(0, "book", 4, 4);
        is(3, "book", 4, 1);
        // The first makes her lie too deep for the other.
        river("barge 1 0 1 99;book 5 0 0 0;book 2 0 0 0;stop 99", "fetch draught<5");
        told.call("leave", 0);
        told.call("leave", 1);
        told.call("run", 0, 0, 1);
        is(100, "book", 0, 4);
        is(0, "book", 1, 4);
        river("barge 1 0 1 99;book 5 0 0 0;book 6 0 0 0;book 7 0 0 0;stop 99;stop 99;reader 0 3 1;reader 0 4 2;reader 1 0 1",
            "fetch 1=1");
        told.call("lend", 0, 0);
        told.call("lend", 1, 1);
        told.call("leave", 2);
        nights(1);
        told.call("sail", 0, ON);
        is(1, "run", 0, 0, 1);
        is(0, "count", 7);
        told.call("sail", 0, BACK);
        is(1, "run", 0, 0, 1);
        is(100, "book", 0, 4);
        is(3, "book", 0, 3);
        is(NONE, "book", 0, 6);
        is(NONE, "reader", 0, 3);
        is(201, "book", 1, 4);
        is(100, "book", 2, 4);
        is(0, "book", 2, 3);
        river("barge 1 0 1 99;book 5 0 0 0;stop 99", "lend 1", "fetch 1=2;shift 0 if 1=1");
        told.call("leave", 0);
        told.call("run", 0, 0, 1);
        told.call("run", 1, 0, 1);
        is(0, "book", 0, 4);
    }

    private void shiftByRule() {
        says(TERMS, "(2) Each BOOK ABOARD her (by numbers) goes to the SHELF of the first shift CLAUSE whose TEST holds and whose"
            + " SHELF she has.");
        river("barge 2 0 1 99;barge 2 0 1 99;book 5 0 0 0;book 2 0 0 1;book 3 0 0 1;book 5 0 1 0;book 5 0 0 0;stop 99",
            "shift 2 if 1=1;shift 1 if weight=5;shift 0 if weight=2;shift 0 if weight=5;fetch 1=1");
        told.call("leave", 4);
        told.call("run", 0, 0, 1);
        int[] shelves = {1, 0, 1, 0, 1};
        for (int book = 0; book < 5; book++) is(shelves[book], "book", book, 1);
        // The first rights her, so that the other stays.
        river("barge 2 0 99 1;book 3 0 0 0;book 3 0 0 0;stop 99", "shift 1 if draught>3");
        told.call("run", 0, 0, 1);
        is(1, "book", 0, 1);
        is(0, "book", 1, 1);
    }

    private void lightened(int depth, String rule, int at, int... where) {
        river("barge 1 0 1 99;barge 1 0 1 99;book 5 3 0 0;book 5 1 0 0;book 5 1 0 0;book 5 0 1 0;stop 99;stop " + depth
            + ";stop 99", rule);
        is(at, "run", 0, 0, 1);
        for (int book = 0; book < where.length; book++) is(where[book], "book", book, 4);
        is(101, "book", 3, 4);
    }

    private void lendByRule() {
        says(TERMS, "(3) As long as there is a next STOP and she does not PASS it: of BOOKS ABOARD her, each with the SUM of the first"
            + " lend CLAUSE without a TEST, or whose TEST holds (those without one are not lent), that with the least SUM, of"
            + " several the least number, is LENT to the READER here who has none whose WISH for it is greatest (above 0; of"
            + " several the least), or, if there is none, LEFT (no BOOK: that is the end of all).");
        lightened(15, "lend worth", 1, 100, 100, 100);
        lightened(14, "lend worth", 1, 100, 0, 100);
        lightened(10, "lend worth", 1, 100, 0, 100);
        lightened(9, "lend worth", 1, 100, 0, 0);
        lightened(4, "lend worth", 1, 0, 0, 0);
        lightened(14, "lend 0-worth", 1, 0, 100, 100);
        lightened(14, "lend 7", 1, 0, 100, 100);
        lightened(14, "lend 9 if book=0;lend 5", 1, 100, 0, 100);
        lightened(14, "lend 5;lend 0 if book=2", 1, 0, 100, 100);
        lightened(14, "lend 1 if book=2;lend 2 if book=1", 1, 100, 100, 0);
        lightened(14, "lend 1 if worth=3", 1, 0, 100, 100);
        lightened(9, "lend 1 if worth=3", 0, 0, 100, 100);
        lightened(14, "lend 1 if worth=9", 0, 100, 100, 100);
        lightened(14, "fetch 1=1", 0, 100, 100, 100);
        // 3 times 2 to the 62 goes round, so that its SUM is the greatest.
        lightened(14, "lend 0-32768*32768*32768*32768*4*worth", 1, 100, 0, 100);
        river("barge 1 10 1 99;stop 99;stop 9;stop 99", "lend 1");
        is(0, "run", 0, 0, 8);
        river("barge 1 0 1 99;book 9 0 0 0;book 9 0 0 0;stop 99;stop 9;stop 1", "lend 1 if book=0");
        is(1, "run", 0, 0, 8);
        is(100, "book", 1, 4);
        // All twelve must go.
        river("barge 1 0 1 99" + times(12, ";book 2 0 0 0") + ";stop 99;stop 1;stop 1", "lend 1");
        is(2, "run", 0, 0, 2);
        is(4095, "stop", 0, 1);
        // By her own TILT, and of BARGE 1 by hers.
        river("barge 1 0 1 1;barge 2 0 9 2;book 6 0 1 0;book 2 1 1 1;book 9 2 0 0;stop 9;stop 99;stop 9 2;stop 9", "lend worth");
        told.call("sail", 1, BACK);
        told.call("sail", 1, BACK);
        nights(90);
        is(2, "run", 0, 1, 1);
        is(1, "book", 0, 4);
        is(101, "book", 1, 4);
        lentTo(0, "");
        lentTo(0, ";wish 0 1 9");
        lentTo(201, ";wish 1 0 1");
        lentTo(201, ";wish 0 0 4;wish 1 0 5");
        lentTo(200, ";wish 0 0 5;wish 1 0 4");
        lentTo(200, ";wish 0 0 5;wish 1 0 5");
        lentTo(200, ";wish 0 0 4;wish 1 0 5", 1);
        lentTo(0, ";wish 1 0 5", 1);
        lentTo(0, ";wish 0 0 4;wish 1 0 5", 0, 1);
    }

    /** BOOK 0 must go at STOP 0, where READERS 0 and 1 are, some of whom have another BOOK. */
    private void lentTo(int where, String wishes, int... having) {
        river("barge 1 0 1 99;book 5 0 0 0;book 9 0 0 0;book 1 0 0 0;book 1 0 0 0;stop 99;stop 9;reader 0 0 1;reader 0 0 7;"
            + "reader 1 0 1;wish 2 0 99" + wishes, "lend book if book<2");
        for (int reader = 0; reader < having.length; reader++) told.call("lend", 2 + reader, having[reader]);
        for (int book = 2; book < 4; book++) told.call("leave", book);
        is(1, "run", 0, 0, 1);
        is(where, "book", 0, 4);
        int reader = where - 200;
        is(reader < 0 ? 0 : told.call("wish", reader, 0), "lies", 0, 5);
        is(reader < 0 ? NONE : reader == 1 ? 7 : 1, "book", 0, 6);
        is(reader < 0 ? 0 : 1, "book", 0, 5);
    }

    private void onByRule() {
        says(TERMS, "(4) ON (at the last STOP that is the end of all).");
        river("barge 1 0 1 99;barge 1 0 1 99;book 9 0 1 0;stop 9;stop 9;stop 9", "lend 1;fetch 1=1");
        is(1, "run", 0, 0, 1);
        is(2, "run", 0, 0, 1);
        is(2, "run", 0, 0, 1);
        is(2, "run", 0, 1, 1);
        is(2, "run", 0, 1, 8);
        is(101, "book", 0, 4);
        told.call("sail", 1, BACK);
        told.call("sail", 1, BACK);
        is(1, "run", 0, 1, 1);
        is(2, "run", 0, 1, 1);
        is(2, "lies", 0, 4);
        // At the last STOP she fetches once more, whatever n is.
        told.call("leave", 0);
        is(2, "run", 0, 0, 8);
        is(100, "book", 0, 4);
    }
}
