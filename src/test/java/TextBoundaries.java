/** The bounds of what is told: the TAPE, a RIVER, RULES, and their FAULTS. */
final class TextBoundaries extends Boundaries {
    private static final int TERMS = Sentences.TERMS;
    private static final String ONE = "barge 1 0 1 1;";
    /** 40 CLAUSES in 366 bytes. */
    private static final String FORTY = "barge1 0 1 1" + times(8, ";stop1") + ";reader0 0 1;book1 1 0 0"
        + times(4, ";hole0 1") + times(25, ";wish0 0 9");
    /** 2 to the 63, which is the least number there is. */
    private static final String ROUND = "32768*32768*32768*32768*8";

    TextBoundaries(Sentences sentences) {
        super(sentences);
    }

    void all() {
        lastCall();
        newObject();
        feed();
        end();
        river();
        rule();
        riverText();
        clausesOfARiver();
        numbersTold();
        ruleText();
        values();
        wordsOfABook();
        blanks();
        depthAndParts();
        faults();
    }

    // ---- helpers

    private void good(int books, String river) {
        fresh();
        isTold("river of: " + river, told.river(river), books);
        is(0, "count", 13);
    }

    private void goodRule(String rule) {
        fresh();
        isTold("rule of: " + rule, told.rule(rule), 0);
        is(0, "count", 13);
    }

    private void badRiver(int kind, String marked) {
        busy();
        faulty("river", kind, marked);
    }

    private void badRule(int kind, String marked) {
        busy();
        faulty("rule", kind, marked);
    }

    /** Where # stands the least and the most are good, the number below and the number above are not. */
    private void numbers(String text, int least, int most) {
        bounds(text, least, most);
        badRiver(0, text.substring(0, text.indexOf('#')) + "~");
    }

    private void bounds(String text, int least, int most) {
        fresh();
        isTold(text + " of " + least, Integer.signum(told.river(text.replace("#", "" + least)) + 1), 1);
        isTold(text + " of " + most, Integer.signum(told.river(text.replace("#", "" + most)) + 1), 1);
        badRiver(1, text.replace("#", "~" + (most + 1)));
        if (least > 0) badRiver(1, text.replace("#", "~" + (least - 1)));
        else badRiver(0, text.replace("#", "~-1"));
    }

    /** Whether a TEST holds for the one BOOK there is, on SHELF 0 of two, at the first of two STOPS. */
    private void holds(boolean want, String test) {
        river("barge 2 0 99 99;book 5 0 0 0;stop 9;stop 9", "shift 1 if " + test);
        told.call("run", 0, 0, 1);
        isTold("holds: " + test, told.call("book", 0, 1), want ? 1 : 0);
    }

    // ---- promises 1 to 5

    private void lastCall() {
        says(Sentences.USE, "An object is used for at most 512 calls after it has been made; what later calls answer is free.");
        river(ONE + "stop 9 8 7 6;hole 0 1");
        isTold("calls made", told.calls(), 5);
        nights(505);
        is(505, "lies", 0, 3);
        is(8, "stop", 0, 0);
        isTold("calls made", told.calls(), 512);
    }

    private void newObject() {
        says(1, "No RIVER, no RULES.");
        fresh();
        for (int what = 0; what <= 13; what++) is(0, "count", what);
        for (String call : new String[] {"night", "rain", "undo", "meeting"}) none(call);
        for (String call : new String[] {"leave", "pump", "back"}) none(call, 0);
        for (String call : new String[] {"book", "stop", "reader", "wish", "lend", "shift", "hand", "plug", "hole", "room",
            "plugs"}) none(call, 0, 0);
        for (String call : new String[] {"fetch", "left", "lending", "dear"}) none(call, 0, 0, 0);
        stays(FAR_OFF, "lies", 0, 0);
        none("sail", 0, ON);
        none("sail", 0, BACK);
        none("run", 0, 0, 1);
        none("aboard", 0, 0, FAR_OFF, 0);
        none("voyages", 0, 0, 1, 1, 0, 0);
        is(0, "seed", 5);
        is(0, "image", 0);
        isTold("a rule without a river", told.rule("lend 1"), 0);
        none("run", 0, 0, 1);
        none("voyages", 0, 0, 1, 1, 0, 0);
    }

    private void feed() {
        says(2, "Twenty bytes come behind the TAPE, of each number the highest first: how many it has;");
        int blank = 0x20202020;
        for (int place = 0; place < 20; place++) {
            int[] five = {blank, blank, blank, blank, blank};
            five[place / 4] ^= 0xe9 << 24 - place % 4 * 8;
            fresh();
            is(20, "feed", five);
            is(-3 - 8 * place, "river");
            is(20, "feed", blank, blank, blank, blank, blank);
            is(40, "feed", five);
            is(-3 - 8 * (20 + place), "river");
        }
        says(2, "NONE, and none comes, if it would have more than 400.");
        fresh();
        for (int n = 20; n <= 400; n += 20) is(n, "feed", blank, blank, blank, blank, blank);
        none("feed", 0, 0, 0, 0, 0);
        is(-3203, "river");
        fresh();
        told.tape(times(381, " "));
        none("feed", 0, 0, 0, 0, 0);
        is(381, "count", 13);
        is(380, "end", 380);
        is(400, "feed", 0, 0, 0, 0, 0);
        is(-3043, "river");
    }

    private void end() {
        says(3, "The TAPE has its first n bytes alone: n;");
        fresh();
        told.tape(ONE + "stop 987;stop 5");
        is(29, "end", 29);
        is(21, "end", 21);
        is(21, "count", 13);
        is(0, "river");
        is(98, "stop", 0, 0);
        is(1, "count", 2);
        told.tape("barge 1 2 3 4");
        is(6, "end", 6);
        told.tape("2 0 1 1;stop 7");
        is(20, "count", 13);
        is(0, "river");
        is(2, "lies", 0, 6);
        is(0, "end", 0);
        told.tape("barge");
        is(0, "end", 0);
        is(-3, "river");
        says(3, "NONE, and nothing happens, if it has not so many, or n is below 0.");
        fresh();
        none("end", 1);
        none("end", -1);
        busy();
        is(15, "end", 15);
        none("end", 16);
        none("end", -1);
        none("end", LEAST);
        none("end", MOST);
        is(2, "rule");
        told.tape(times(400, " "));
        none("end", 401);
        is(400, "end", 400);
    }

    private void river() {
        says(4, "The TAPE, which is empty then, is the RIVER in place of the one there was (no WATER; x stays; nothing can be"
            + " UNDONE): how many BOOKS;");
        busy();
        is(5, "lies", 0, 3);
        isTold("no book", told.river("barge 4 0 1 1;stop 9;hole 0 9"), 0);
        int[] counts = {1, 0, 1, 0, 1, 2, 0, 0, 0, 0, 0, 0, 77, 0};
        for (int what = 0; what < counts.length; what++) is(counts[what], "count", what);
        is(0, "lies", 0, 3);
        is(0, "lies", 0, 5);
        is(0, "hole", 0, 2);
        none("undo");
        is(0, "back", 0);
        is(8, "count", 1);
        isTold("twelve", told.river(ONE + "stop 9" + times(12, ";book 1 0 0 0")), 12);
        is(0, "count", 13);
        says(4, "-2 - its FAULT, and all stays.");
        badRiver(0, "~");
        badRiver(4, "~stop 9");
        badRiver(1, "barge 1 0 1 ~0;stop 9");
        badRiver(0, ONE + "stop 9;hole 0 1;book 1 1 0 0;reader 0 1 1;wish 0 0 5;~x");
        fresh();
        faulty("river", 0, "~");
    }

    private void rule() {
        says(5, "The TAPE, which is empty then, is a RULE: its number;");
        busy();
        for (int number = 2; number <= 5; number++) {
            isTold("rule", told.rule("lend " + number), number);
            is(0, "count", 13);
            is(number + 1, "count", 5);
        }
        says(5, "-2 - its FAULT;");
        badRule(0, "~");
        badRule(0, "lend~");
        badRule(0, "fetch 1=1;shift 1 if 1=1;lend 1 ~x");
        says(5, "NONE, and nothing happens: there are 6.");
        busy();
        for (int number = 2; number <= 5; number++) told.rule("lend " + number);
        none("rule");
        told.tape("lend");
        none("rule");
        is(4, "count", 13);
        is(4 - 4, "end", 0);
        told.tape("barge 1 0 1 1;stop 7");
        none("rule");
        is(6, "count", 5);
        is(0, "river");
        is(7, "stop", 0, 0);
    }

    // ---- terms

    private void riverText() {
        says(TERMS, "A RIVER is a text of at most 400 bytes: CLAUSE { ; CLAUSE }, 40 at most:");
        good(0, times(380, " ") + ONE + "stop 9");
        is(9, "stop", 0, 0);
        good(0, ONE + "stop 9" + times(380, " "));
        badRiver(0, times(387, " ") + "barge 1 1 1 1~");
        badRiver(0, times(379, " ") + ONE + "stop 9~x");
        good(1, FORTY);
        is(9, "wish", 0, 0);
        good(1, FORTY.substring(0, FORTY.length() - 1) + "8");
        is(8, "wish", 0, 0);
        badRiver(4, FORTY + ";~wish0 0 9");
        badRiver(0, "~;" + ONE + "stop 9");
        badRiver(0, ONE + "~;stop 9");
        badRiver(0, ONE + "stop 9;~");
        badRiver(0, ONE + "stop 9 ; ~");
        badRiver(0, "barge 1 0 1 1~:stop 9");
    }

    private void clausesOfARiver() {
        says(TERMS, "barge NUMBER NUMBER NUMBER NUMBER (SHELVES 1 to 8, her own WEIGHT 0 to 9999, STONE to the INCH 1 to 99,"
            + " LEAN 1 to 999; all ahead of all others)");
        for (String ahead : new String[] {"", "barge 3 3 3 3;"}) {
            numbers(ahead + "barge # 0 1 1;stop 9", 1, 8);
            numbers(ahead + "barge 1 # 1 1;stop 9", 0, 9999);
            numbers(ahead + "barge 1 0 # 1;stop 9", 1, 99);
            numbers(ahead + "barge 1 0 1 #;stop 9", 1, 999);
        }
        badRiver(0, "barge 1 0 1 1 ~1;stop 9");
        badRiver(4, ONE + "stop 9;~barge 1 0 1 1");
        badRiver(4, ONE + ONE + "book 1 1 1 0;~barge 1 0 1 1;stop 9");
        good(1, "barge 8 9999 99 999;barge 2 0 1 1;stop 9;book 99 0 0 0");
        is(8, "lies", 0, 6);
        is(9999 + 99, "lies", 0, 0);
        is(-7 * 99, "lies", 0, 1);
        is(102, "lies", 0, 2);
        says(TERMS, "book NUMBER NUMBER NUMBER NUMBER (WEIGHT 1 to 99, WORTH 0 to 99, a BARGE, a SHELF of it)");
        numbers("barge 3 0 1 1;stop 9;book # 0 0 0", 1, 99);
        numbers("barge 3 0 1 1;stop 9;book 1 # 0 0", 0, 99);
        numbers("barge 3 0 1 1;stop 9;book 1 0 # 0", 0, 0);
        numbers("barge 3 0 1 1;barge 2 0 1 1;stop 9;book 1 0 # 0", 0, 1);
        numbers("barge 3 0 1 1;barge 2 0 1 1;stop 9;book 1 0 0 #", 0, 2);
        numbers("barge 3 0 1 1;barge 2 0 1 1;stop 9;book 1 0 1 #", 0, 1);
        numbers("barge 8 0 1 1;stop 9;book 1 0 0 #", 0, 7);
        badRiver(0, "barge 3 0 1 1;stop 9;book 1 0 0 0 ~1");
        says(TERMS, "stop NUMBER { NUMBER } (1 to 4 DEPTHS, 1 to 999 INCHES each, by seasons)");
        numbers(ONE + "stop #", 1, 999);
        bounds(ONE + "stop 1 #", 1, 999);
        bounds(ONE + "stop 1 1 #", 1, 999);
        bounds(ONE + "stop 1 1 1 #", 1, 999);
        badRiver(0, ONE + "stop~");
        badRiver(0, ONE + "stop ~;stop 1");
        good(0, ONE + "stop 1 2 3 4");
        badRiver(0, ONE + "stop 1 2 3 4 ~5");
        readersWishesHoles();
    }

    private void readersWishesHoles() {
        says(TERMS, "reader NUMBER NUMBER NUMBER (a STOP that was told, THUMB 0 to 9, DAYS 1 to 99)");
        numbers(ONE + "stop 9;reader # 0 1", 0, 0);
        numbers(ONE + "stop 9;reader # 0 1;stop 9", 0, 0);
        numbers(ONE + times(8, "stop 9;") + "reader # 0 1", 0, 7);
        numbers(ONE + "stop 9;reader 0 # 1", 0, 9);
        numbers(ONE + "stop 9;reader 0 0 #", 1, 99);
        badRiver(1, ONE + "reader ~0 0 1;stop 9");
        badRiver(0, ONE + "stop 9;reader 0 0 1 ~1");
        says(TERMS, "wish NUMBER NUMBER NUMBER (a READER that was told, a BOOK that was told, COINS 1 to 99; of the same two"
            + " the last told)");
        String told6 = ONE + "stop 9;book 1 0 0 0" + times(6, ";reader 0 0 1");
        String told12 = ONE + "stop 9;reader 0 0 1" + times(12, ";book 1 0 0 0");
        numbers(ONE + "stop 9;book 1 0 0 0;reader 0 0 1;wish # 0 1;reader 0 0 1", 0, 0);
        numbers(ONE + "stop 9;book 1 0 0 0;reader 0 0 1;wish 0 # 1;book 1 0 0 0", 0, 0);
        numbers(told6 + ";wish # 0 1", 0, 5);
        numbers(told12 + ";wish 0 # 1", 0, 11);
        numbers(told12 + ";wish 0 0 #", 1, 99);
        badRiver(1, ONE + "stop 9;book 1 0 0 0;wish ~0 0 1;reader 0 0 1");
        badRiver(1, ONE + "stop 9;reader 0 0 1;wish 0 ~0 1;book 1 0 0 0");
        badRiver(0, told12 + ";wish 0 0 1 ~1");
        good(1, told6 + ";wish 5 0 99;wish 5 0 1;wish 4 0 3");
        is(1, "wish", 5, 0);
        is(3, "wish", 4, 0);
        is(0, "wish", 3, 0);
        says(TERMS, "hole NUMBER NUMBER (a BARGE, WATER 1 to 99).");
        numbers(ONE + "stop 9;hole # 1", 0, 0);
        numbers(ONE + ONE + "stop 9;hole # 1", 0, 1);
        numbers(ONE + "stop 9;hole 0 #", 1, 99);
        badRiver(0, ONE + "stop 9;hole 0 1 ~1");
    }

    private void numbersTold() {
        says(TERMS, "BARGES 0 and 1, BOOKS 0 to 11, STOPS 0 to 7, READERS 0 to 5, HOLES 0 to 3, in the order told; at least one"
            + " BARGE and one STOP.");
        StringBuilder text = new StringBuilder("barge 1 20 1 1;barge 2 30 1 1");
        for (int i = 0; i < 12; i++) text.append(";book ").append(i + 1).append(" 0 0 0");
        for (int i = 0; i < 8; i++) text.append(";stop ").append(i + 1);
        for (int i = 0; i < 6; i++) text.append(";reader ").append(i).append(" 0 1");
        for (int i = 0; i < 4; i++) text.append(";hole 1 ").append(i + 1);
        good(12, text.toString());
        is(1, "lies", 0, 6);
        is(2, "lies", 1, 6);
        is(FAR_OFF, "lies", 2, 6);
        for (int i = 0; i < 12; i++) is(i + 1, "book", i, 0);
        for (int i = 0; i < 8; i++) is(i + 1, "stop", i, 0);
        for (int i = 0; i < 6; i++) is(i, "reader", i, 0);
        for (int i = 0; i < 4; i++) is(i + 1, "hole", i, 1);
        none("book", 12, 0);
        none("stop", 8, 0);
        none("reader", 6, 0);
        none("hole", 4, 0);
        int[] counts = {2, 12, 8, 6, 4};
        for (int what = 0; what < 5; what++) is(counts[what], "count", what);
        full();
        good(0, ONE + "stop 9");
        badRiver(0, "barge 1 0 1 1~");
        badRiver(0, ONE + "barge 1 0 1 1;book 1 0 1 0~");
        badRiver(4, "~stop 9");
        says(TERMS, "At first all BOOKS are ABOARD, without DAMP; BARGE 0 is AT STOP 0, BARGE 1 at the last; it is DAY 0.");
        good(2, ONE + "barge 2 0 1 1;book 5 0 1 1;book 6 0 0 0;stop 9;stop 9;stop 9");
        is(101, "book", 0, 4);
        is(100, "book", 1, 4);
        is(0, "book", 0, 3);
        is(0, "book", 1, 3);
        is(0, "lies", 0, 4);
        is(2, "lies", 1, 4);
        is(0, "count", 6);
        is(2, "count", 7);
        good(0, ONE + "barge 2 0 1 1;stop 9");
        is(0, "lies", 1, 4);
        good(0, ONE + "barge 2 0 1 1;" + times(7, "stop 9;") + "stop 9");
        is(7, "lies", 1, 4);
    }

    /** As many of all as there can be, each with numbers of its own: what is done to one is not done to another. */
    private void full() {
        StringBuilder text = new StringBuilder("barge2 1 1 9;barge8 2 1 9");
        for (int i = 0; i < 12; i++) text.append(";book").append(10 + i).append(' ').append(30 + i).append(" 1 ").append(1 + i % 7);
        text.append(";stop11 12 13 14;stop91;stop92;stop93;stop94;stop95;stop96;stop81 82 83 84");
        for (int i = 0; i < 6; i++) text.append(";reader7 ").append(9 - i).append(' ').append(1 + i);
        for (int i = 0; i < 4; i++) text.append(";hole1 ").append(5 + i);
        good(12, text + ";wish0 0 9;wish5 11 8");
        seenInFull(false);
        told.call("rain");
        told.call("lend", 11, 5);
        told.call("lend", 0, 0);
        told.call("plug", 3, 10);
        told.call("plug", 0, 9);
        told.call("shift", 1, 7);
        told.call("shift", 8, 0);
        told.call("night");
        seenInFull(true);
        for (int acts = 7; acts >= 0; acts--) is(acts, "undo");
        seenInFull(false);
        told.call("lend", 11, 5);
        told.call("lend", 0, 0);
        nights(6);
        told.call("fetch", 11, 1, 0);
        is(4, "book", 11, 3);
        told.call("fetch", 0, 1, 0);
        is(9, "book", 0, 3);
        nights(84);
        is(12, "stop", 0, 0);
        is(82, "stop", 7, 0);
        nights(180);
        is(14, "stop", 0, 0);
        is(84, "stop", 7, 0);
    }

    private void seenInFull(boolean isDone) {
        int damp = isDone ? 1 : 0;
        for (int i = 0; i < 12; i++) {
            boolean isLent = isDone && (i == 0 || i == 11);
            is(10 + i, "book", i, 0);
            is(isDone && i == 1 ? 7 : isDone && i == 8 ? 0 : 1 + i % 7, "book", i, 1);
            is(30 + i, "book", i, 2);
            is(damp, "book", i, 3);
            is(isLent ? 200 + i * 5 / 11 : isDone && i > 8 ? 300 : 101, "book", i, 4);
            is(isLent ? 1 : 0, "book", i, 5);
            is(isLent ? 1 + i * 5 / 11 : NONE, "book", i, 6);
            for (int r = 0; r < 6; r++) is(r == 0 && i == 0 ? 9 : r == 5 && i == 11 ? 8 : 0, "wish", r, i);
        }
        for (int r = 0; r < 6; r++) {
            boolean hasOne = isDone && r % 5 == 0;
            int[] due = {7, 9 - r, 1 + r, hasOne ? r * 11 / 5 : NONE, hasOne ? 1 : 0};
            for (int what = 0; what <= 4; what++) is(due[what], "reader", r, what);
        }
        for (int h = 0; h < 4; h++) {
            int[] due = {1, 5 + h, isDone && h % 3 == 0 ? 1 : 0};
            for (int what = 0; what <= 2; what++) is(due[what], "hole", h, what);
        }
        int[] depths = {11, 91, 92, 93, 94, 95, 96, 81};
        for (int k = 0; k < 8; k++) is(depths[k], "stop", k, 0);
        is(1, "lies", 0, 0);
        is(0, "lies", 0, 3);
        is(0, "lies", 0, 4);
        is(0, "lies", 0, 5);
        // BOOKS 1 to 8 are ABOARD still: 11 to 18 and their DAMP.
        is(isDone ? 2 + 116 + 8 + 13 : 2 + 186, "lies", 1, 0);
        is(isDone ? 13 : 0, "lies", 1, 3);
        is(7, "lies", 1, 4);
        is(isDone ? 17 : 0, "lies", 1, 5);
        is(damp, "count", 6);
        is(isDone ? 8 : 12, "count", 7);
        is(0, "count", 12);
    }

    private void ruleText() {
        says(TERMS, "RULES 0 to 5: texts likewise, 12 CLAUSES at most:");
        fresh();
        for (int number = 0; number <= 5; number++) isTold("rule", told.rule("lend 1"), number);
        isTold("a seventh", told.rule("lend 1"), NONE);
        // Six of the longest, and long faulty ones among them: each is kept as it was told.
        river("barge 8 0 99 99;book 5 0 0 0;stop 9");
        for (int number = 0; number <= 5; number++) {
            faulty("rule", 0, "fetch 1" + times(57, "+1") + "=1~x");
            String test = number + times(54, "+1") + "=" + (54 + number);
            isTold("rule", told.rule("shift 0 if 0=1;shift " + (number + 1) + " if " + test), number);
        }
        for (int number = 0; number <= 5; number++) {
            told.call("run", number, 0, 1);
            is(number + 1, "book", 0, 1);
        }
        goodRule("lend 1" + times(11, ";lend 1"));
        goodRule("fetch 1=1" + times(11, ";fetch 1=1"));
        badRule(4, "lend 1" + times(11, ";lend 1") + ";~lend 1");
        badRule(4, "lend 1" + times(11, ";fetch 1=1") + ";~shift 1 if 1=1");
        goodRule(times(394, " ") + "lend 1");
        goodRule("lend 1" + times(394, " "));
        badRule(0, times(396, " ") + "lend~");
        badRule(0, times(392, " ") + "lend 1 ~x");
        badRule(0, "lend 1;~;lend 1");
        badRule(0, "lend 1;~");
        says(TERMS, "lend SUM [ if TEST ] | fetch TEST");
        goodRule("lend weight");
        goodRule("lend weight if weight=1");
        goodRule("fetch weight=1");
        badRule(0, "lend~");
        badRule(0, "lend ~if 1=1");
        badRule(0, "lend 1 if~");
        badRule(0, "lend 1 if ~;lend 1");
        badRule(0, "lend 1 if 1~");
        badRule(0, "lend 1~=1");
        badRule(0, "lend 1 if 1=1 ~if 1=1");
        badRule(0, "fetch~");
        badRule(0, "fetch ~if 1=1");
        badRule(0, "fetch 1~");
        says(TERMS, "shift NUMBER if TEST (a SHELF 0 to 7, there or not).");
        goodRule("shift 0 if 1=1");
        goodRule("shift 7 if 1=1");
        badRule(1, "shift ~8 if 1=1");
        badRule(0, "shift ~-1 if 1=1");
        badRule(0, "shift ~day if 1=1");
        badRule(0, "shift ~if 1=1");
        badRule(0, "shift 1 ~1=1");
        badRule(0, "shift 1~");
        badRule(0, "shift 1 ~;lend 1");
        badRule(0, "shift 1 if~");
        river("barge 2 0 99 99;book 5 0 0 0;stop 9", "shift 2 if 1=1;shift 7 if 1=1;shift 1 if 1=1");
        is(0, "run", 0, 0, 1);
        is(1, "book", 0, 1);
        tests();
        says(TERMS, "FACT: not FACT | [ TEST ] (these brackets are signs) | SUM SIGN SUM, SIGN one of < <= = >= >.");
        String[] signs = {"<", "<=", "=", ">=", ">"};
        boolean[][] due = {{true, true, false, false, false}, {false, true, true, true, false},
            {false, false, false, true, true}};
        for (int k = 0; k < signs.length; k++) {
            for (int a = 0; a <= 2; a++) holds(due[a][k], a + signs[k] + "1");
            badRule(0, "fetch 1 " + signs[k] + "~");
            badRule(0, "fetch ~" + signs[k] + " 1");
        }
        badRule(0, "fetch 1 < ~= 1");
        badRule(0, "fetch 1 =~< 1");
        badRule(0, "fetch 1 <~> 1");
        badRule(0, "fetch 1 ~! 1");
        badRule(0, "fetch [1=1~");
        badRule(0, "fetch 1=1~]");
        badRule(0, "fetch [~]");
        holds(true, "not 1=2 and 1=1");
        holds(false, "not 1=1 or 1=2");
        holds(true, "not[1=1 and 1=2]");
        holds(false, "not[1=1 or 1=2]");
        for (String fact : new String[] {"0<1", "0<=1", "0=0", "1>=0", "1>0"}) {
            holds(false, "not " + fact);
            holds(true, "not not " + fact);
            holds(true, "0=0 and " + fact + " and 0=0");
            holds(false, "0=1 and " + fact);
            holds(true, "0=1 or " + fact);
        }
    }

    private void tests() {
        says(TERMS, "TEST: PART { or PART }. PART: FACT { and FACT }.");
        for (int bits = 0; bits < 8; bits++) {
            boolean a = (bits & 1) != 0, b = (bits & 2) != 0, c = (bits & 4) != 0;
            String x = a ? "0=0" : "0=1", y = b ? "0=0" : "0=1", z = c ? "0=0" : "0=1";
            holds(a && b && c, x + " and " + y + " and " + z);
            holds(a || b || c, x + " or " + y + " or " + z);
            holds(a || b && c, x + " or " + y + " and " + z);
            holds(a && b || c, x + " and " + y + " or " + z);
            holds((a || b) && c, "[" + x + " or " + y + "] and " + z);
            holds(a && (b || c), x + " and [" + y + " or " + z + "]");
            holds(a || (b && c), x + " or [" + y + " and " + z + "]");
            holds(a || !(b || c), x + " or not [" + y + " or " + z + "]");
        }
        badRule(0, "fetch 1=1 or~");
        badRule(0, "fetch 1=1 and~");
        badRule(0, "fetch ~or 1=1");
        badRule(0, "fetch 1=1 and ~and 1=1");
    }

    private void values() {
        says(TERMS, "SUM: TERM { (+ or -) TERM }. TERM: VALUE { (* or /) VALUE }.");
        goodRule("lend 1+2-3*4/5");
        for (String sign : new String[] {"+", "-", "*", "/"}) {
            badRule(0, "lend ~" + sign + "1");
            badRule(0, "lend 1" + sign + "~");
            badRule(0, "lend 1" + sign + "~;lend 1");
            badRule(0, "lend 1" + sign + "~" + sign + "1");
        }
        badRule(0, "lend 1~%2");
        badRule(0, "lend 1~,2");
        holds(true, "2+3*4=14");
        holds(true, "20-12/4=17");
        holds(true, "20-5-3=12");
        holds(true, "40/4/2=5");
        says(TERMS, "VALUE: NUMBER (1 to 5 digits, as far as digits go on) | WORD.");
        goodRule("lend 0");
        goodRule("lend 99999");
        goodRule("lend 00000");
        badRule(1, "lend ~100000");
        badRule(1, "lend ~000000");
        badRule(1, "lend ~100000 x");
        badRule(1, "lend 1+~999999");
        badRule(0, "lend ~");
        badRule(0, "lend 1 ~2");
        holds(true, "99999 - 99998 = 1");
        holds(true, "00012 = 12");
        good(0, "barge 00001 00000 00001 00001;stop 00009");
        badRiver(1, "barge ~000001 0 1 1;stop 9");
        badRiver(1, ONE + "stop ~000009");
        says(TERMS, "/ is towards 0, 0 by 0; all goes round in 64 bits.");
        holds(true, "0+5=5");
        holds(true, "0+5-7+9*2-8/4=14");
        holds(true, "0*5+3*4=12");
        holds(true, "0+12/2*3-7-2=9");
        holds(false, "2+3=6");
        holds(false, "5-3=8");
        holds(false, "2*3=5");
        holds(true, "7/2=3");
        holds(true, "8/2=4");
        holds(true, "1/2=0");
        holds(true, ROUND + "-" + ROUND + "/3*3=0-2");
        holds(true, "5/0=0");
        holds(true, "0/0=0");
        holds(true, ROUND + "/0=0");
        holds(true, "1+7/0*5=1");
        holds(true, ROUND + "<0");
        holds(true, ROUND + "-1>0");
        holds(true, ROUND + "-1+1<0");
        holds(true, ROUND + "*2=0");
        holds(true, "0-" + ROUND + "<0");
        holds(true, ROUND + "/2<0");
        holds(true, "32768*32768*32768*32768*4>0");
    }

    private void wordsOfABook() {
        says(TERMS, "WORDS (small letters, as far as these go on) of a BOOK, as to a BARGE:");
        for (String word : new String[] {"book", "weight", "shelf", "worth", "damp", "wish", "stop", "depth", "draught",
            "water", "loans", "day"}) {
            goodRule("lend " + word + "+1 if " + word + "=1");
            badRule(0, "lend ~" + word + "s");
            badRule(0, "lend ~" + word.substring(1));
            badRule(0, "lend ~" + word.substring(0, word.length() - 1));
            badRule(0, "lend ~" + word + "if 1=1");
            badRule(0, "lend " + word + "~D");
        }
        goodRule("lend 1if 1=1and 2=2or not 3=3");
        badRule(0, "lend day~1");
        badRule(0, "lend ~Day");
        badRule(0, "fetch ~notday=1");
        badRule(0, "fetch 1=1 ~andday=1");
        badRule(0, "fetch 1=1 ~ordinary=1");
        badRule(0, "~lender 1");
        badRule(0, "~lenda 1");
        badRule(0, "~lendz 1");
        badRule(0, "lend~{1");
        badRule(0, "lend~`1");
        badRule(0, "~le nd 1");
        badRiver(0, "~barged 1 0 1 1;stop 9");
        badRiver(0, "~bar 1 0 1 1;stop 9");
        eachWord();
        says(TERMS, "wish (the greatest of READERS at her STOP who have none; 0 without)");
        wishOf(0, "reader 0 0 1;reader 0 0 1");
        wishOf(0, "reader 1 0 1;reader 1 0 1;wish 0 0 5");
        wishOf(1, "reader 0 0 1;reader 0 0 1;wish 1 0 1");
        wishOf(9, "reader 0 0 1;reader 0 0 1;wish 0 0 9;wish 1 0 8");
        wishOf(9, "reader 0 0 1;reader 0 0 1;wish 0 0 8;wish 1 0 9");
        wishOf(8, "reader 0 0 1;reader 1 0 1;wish 0 0 8;wish 1 0 9");
        wishOf(8, "reader 0 0 1;reader 0 0 1;wish 0 0 8;wish 1 0 9", 1);
        wishOf(0, "reader 0 0 1;reader 1 0 1;wish 0 0 8;wish 1 0 9", 0);
        says(TERMS, "depth (of the next STOP now; 0 at the last)");
        river("barge 2 0 99 99;book 5 0 0 0;stop 9;stop 7;stop 6", "shift 1 if depth=7", "shift 0 if depth=6",
            "shift 1 if depth=0");
        is(1, "run", 0, 0, 1);
        is(1, "book", 0, 1);
        is(2, "run", 1, 0, 1);
        is(0, "book", 0, 1);
        is(2, "run", 2, 0, 1);
        is(1, "book", 0, 1);
        river("barge 2 0 99 99;book 5 0 0 0" + times(8, ";stop 9") + ";reader 7 7 7", "shift 1 if depth=0");
        is(7, "run", 0, 0, 7);
        is(0, "book", 0, 1);
        is(7, "run", 0, 0, 1);
        is(1, "book", 0, 1);
    }

    private void eachWord() {
        says(TERMS, "book, weight (with its DAMP), shelf (where it stands, or stood last), worth, damp,");
        int[] due = {4, 23, 2, 50, 3};
        String[] words = {"book", "weight", "shelf", "worth", "damp"};
        for (int i = 0; i < words.length; i++) wordIs(words[i], due[i]);
        says(TERMS, "stop,");
        wordIs("stop", 1);
        says(TERMS, "draught (as she lies now), water, loans (how often it was lent), day.");
        wordIs("draught", 19);
        wordIs("water", 30);
        wordIs("loans", 1);
        wordIs("day", 6);
        wordIs("wish", 9);
        wordIs("depth", 40);
    }

    /** Of BOOK 4, that was LENT and FETCHED: LOAD 7 + 23 + 30 + 4 * 2, TILT 23, DRAUGHT 14 + 5. */
    private void wordIs(String word, int value) {
        river("barge 4 7 5 4;book 1 0 0 0;book 1 0 0 3;book 1 0 0 0;book 1 0 0 3;book 20 50 0 0;stop 99;stop 99;stop 40;"
            + "reader 1 2 6;reader 1 0 1;wish 0 4 9;wish 1 4 8;hole 0 5", "shift 3 if book=4 and " + word + "=" + value,
            "shift 1 if book=4 and not " + word + "=" + value);
        told.call("sail", 0, ON);
        told.call("rain");
        told.call("lend", 4, 0);
        nights(6);
        told.call("fetch", 4, 0, 2);
        told.call("image", 0);
        is(2, "run", 0, 0, 1);
        is(3, "book", 4, 1);
        is(6, "back", 0);
        is(2, "run", 1, 0, 1);
        is(2, "book", 4, 1);
    }

    /** The word wish of BOOK 0 at STOP 0, some READERS having BOOK 1. */
    private void wishOf(int want, String readers, int... having) {
        river("barge 2 0 99 99;book 5 0 0 0;book 5 0 0 0;stop 9;stop 9;" + readers, "shift 1 if book=0 and wish=" + want);
        for (int reader : having) told.call("lend", 1, reader);
        told.call("run", 0, 0, 1);
        is(1, "book", 0, 1);
    }

    private void blanks() {
        says(TERMS, "Blanks (32) stand between as one likes.");
        good(1, "barge1 0 1 1;stop9;book1 0 0 0");
        good(1, "   barge  1   0 1  1   ;   stop    9  ;book 1    0 0 0     ");
        goodRule("lend1+2*3if1<=1and[2>=2]or not 3=3;fetch1=1;shift1if1=1");
        goodRule("  lend  1  +  2  *  3  if  1  <=  1  and  [  2  >=  2  ]  or  not  3  =  3  ;  fetch  1  =  1  ");
        for (char no : new char[] {0, 9, 10, 13, 31, 33, 160, 255}) {
            badRiver(0, "barge 1~" + no + "0 1 1;stop 9");
            badRiver(0, "~" + no + ONE + "stop 9");
            badRiver(0, ONE + "stop 9~" + no);
            badRule(0, "lend 1~" + no);
            badRule(0, "lend~" + no + "1");
        }
        badRiver(0, "barge 1 0 1~.1;stop 9");
    }

    private void depthAndParts() {
        says(TERMS, "[ and not lie within one another 10 deep at most; at most 60 VALUES (of SUMS) and FACTS made of a SIGN,"
            + " together.");
        goodRule("fetch " + times(10, "not ") + "1=1");
        goodRule("fetch " + times(10, "[") + "1=1" + times(10, "]"));
        goodRule("fetch " + times(5, "not[") + "1=1" + times(5, "]"));
        goodRule("fetch " + times(9, "[") + "not 1=1 and not 1=1 or [1=1]" + times(9, "]") + " or " + times(10, "not ")
            + "1=1");
        goodRule("lend 1 if " + times(10, "not ") + "1=1;shift 1 if " + times(10, "[") + "1=1" + times(10, "]"));
        badRule(2, "fetch " + times(10, "not ") + "~not 1=1");
        badRule(2, "fetch " + times(10, "[") + "~[1=1" + times(11, "]"));
        badRule(2, "fetch " + times(9, "[") + "not ~[1=1" + times(10, "]"));
        badRule(2, "fetch " + times(9, "[") + "not ~not 1=1" + times(9, "]"));
        badRule(2, "lend 1 if 1=1 or " + times(10, "not ") + "~[1=1]");
        badRule(2, "shift 1 if 1=1 and " + times(10, "[") + "1=1 or ~[1=1");
        holds(true, times(10, "not ") + "1=1");
        holds(false, times(9, "not ") + "1=1");
        goodRule("lend 1" + times(59, "+1"));
        badRule(3, "lend 1" + times(59, "+1") + "+~1");
        badRule(3, "lend 1" + times(59, "*1") + "*~day");
        goodRule("fetch " + times(19, "1=1or ") + "1=1");
        badRule(3, "fetch " + times(20, "1=1or ") + "~1=1");
        goodRule("fetch 1" + times(57, "+1") + "=1");
        badRule(3, "fetch 1" + times(58, "+1") + "=~1");
        badRule(3, "fetch 1" + times(59, "+1") + "~<=1");
        goodRule("shift 7 if 1" + times(57, "+1") + "=1");
        goodRule("lend 1" + times(28, "+1") + " if 1=1;lend 1" + times(27, "+1"));
        badRule(3, "lend 1" + times(28, "+1") + " if 1=1;lend 1" + times(27, "+1") + "+~1");
        goodRule("fetch " + times(19, "not[1=1]and ") + "1=1");
        holds(true, "1" + times(57, "+1") + "=58");
    }

    private void faults() {
        says(TERMS, "FAULTS, the first along the text, 1 + 8 * its place and:");
        badRiver(1, "barge ~9 0 1 1;x;stop 0");
        badRiver(0, ONE + "~x;stop 0");
        badRiver(1, ONE + "stop ~0;" + ONE);
        badRiver(4, ONE + "stop 1;~barge 9 0 1 1");
        badRule(2, "fetch " + times(10, "[") + "~[x");
        badRule(3, "lend 1" + times(59, "+1") + "+~1+100000");
        badRule(1, "lend ~100000" + times(60, "+1"));
        badRule(0, "lend 1 ~x" + times(60, "+1"));
        says(TERMS, "0 a byte or WORD that can't stand there, or the end (behind the last byte; also without a BARGE or a STOP;"
            + " a fifth DEPTH);");
        badRiver(0, "~");
        badRiver(0, "  ~");
        badRiver(0, "~X");
        badRiver(0, "~1");
        badRiver(0, "~lend 1");
        badRiver(0, "barge~");
        badRiver(0, "barge 1 0 1~");
        badRiver(0, "barge 1 0 1  ~");
        badRiver(0, "barge 1 0 1 ~;stop 9");
        badRiver(0, "barge 1 0 1 1~");
        badRiver(0, "barge 1 0 1 1   ~");
        badRiver(0, ONE + "stop 1 2 3 4 ~5");
        badRiver(0, ONE + "stop 1 2 3 4 ~0");
        badRule(0, "~");
        badRule(0, "  ~");
        badRule(0, "~barge 1 0 1 1");
        badRule(0, "~if 1=1");
        badRule(0, "lend 1 + ~");
        badRule(0, "lend 1 if 1  ~");
        badRule(0, "lend 1 ~fetch 1=1");
        badRule(0, "lend ~-1");
        badRule(0, "lend 1 ~]");
        badRule(0, "fetch ~if 1=1");
        badRule(0, "fetch 1=1 ~if 1=1");
        badRule(0, "fetch 1=1 and ~;fetch 1=1");
        badRule(0, "fetch 1+~[1=1]");
        badRule(0, "fetch not ~or 1=1");
        says(TERMS, "1 a NUMBER of more digits, or not as told;");
        badRiver(1, "barge ~123456 1 1 1");
        badRiver(1, "barge 1 ~99999 1 1");
        badRiver(1, "barge 1 1 ~4294967297 1;stop 9");
        badRiver(1, ONE + "stop 1 2 3 ~1000000000000000000001");
        badRule(1, "lend ~4294967297");
        badRule(1, "shift ~000001 if 1=1");
        badRule(1, "fetch 1=~123456");
        says(TERMS, "2 too deep (at the sign that opens, or the word not);");
        badRule(2, "fetch " + times(10, "[") + "  ~[  1=1");
        badRule(2, "fetch " + times(10, "[") + "  ~not  1=1");
        badRule(0, "fetch " + times(10, "[") + "~nothing");
        badRule(0, "fetch " + times(10, "[") + "1=1" + times(10, "]") + "~[");
        says(TERMS, "3 one VALUE or FACT too many (at its first byte; of a FACT at its SIGN);");
        badRule(3, "lend 1" + times(59, "+1") + "  +  ~12345");
        badRule(3, "lend 1" + times(59, "+1") + "+~weight");
        badRule(3, "fetch 1" + times(59, "+1") + "  ~>=  1");
        badRule(3, "fetch 1" + times(58, "+1") + ">=  ~1");
        says(TERMS, "4 one CLAUSE too many, a third barge, a barge behind others, another CLAUSE ahead of the first barge, a 13th"
            + " BOOK, a ninth STOP, a seventh READER, a fifth HOLE (at its first byte).");
        tooManyClauses();
        says(TERMS, "Of one place the least.");
        badRiver(0, FORTY + ";~wishes");
        badRiver(0, FORTY + "; ~");
        badRiver(0, ONE + ONE + "~barges");
        badRiver(0, ONE + "stop 1 2 3 4 ~555555");
        badRule(0, "lend 1" + times(11, ";lend 1") + ";~lends");
        badRule(0, "lend 1" + times(11, ";lend 1") + ";~");
        badRule(0, "lend 1" + times(59, "+1") + "+~days");
        badRule(0, "lend 1" + times(59, "+1") + "+~");
        badRule(1, "lend 1" + times(59, "+1") + "+~100000");
        badRule(0, "fetch 1" + times(59, "+1") + "~;");
    }

    private void tooManyClauses() {
        badRiver(4, FORTY + "; ~wish0 0 9");
        badRiver(4, FORTY + ";~hole");
        badRiver(4, ONE + ONE + "~barge 1 0 1 1;stop 9");
        badRiver(4, ONE + ONE + "  ~barge");
        badRiver(4, ONE + "hole 0 1;~barge 1 0 1 1;stop 9");
        for (String word : new String[] {"book", "stop", "reader", "wish", "hole"}) badRiver(4, " ~" + word + " 1;" + ONE);
        good(12, ONE + "stop 9" + times(12, ";book 1 0 0 0"));
        badRiver(4, ONE + "stop 9" + times(12, ";book 1 0 0 0") + ";~book 1 0 0 0");
        good(0, ONE + "stop 9" + times(7, ";stop 9"));
        badRiver(4, ONE + "stop 9" + times(7, ";stop 9") + ";~stop 9");
        good(0, ONE + "stop 9" + times(6, ";reader 0 0 1"));
        badRiver(4, ONE + "stop 9" + times(6, ";reader 0 0 1") + ";~reader 0 0 1");
        good(0, ONE + "stop 9" + times(4, ";hole 0 1"));
        badRiver(4, ONE + "stop 9" + times(4, ";hole 0 1") + ";~hole 0 1");
        badRule(4, "fetch 1=1" + times(11, ";lend 1") + ";  ~fetch");
    }
}
