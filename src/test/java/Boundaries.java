/** Tests at the bounds that the document names, each under its sentence. */
abstract class Boundaries {
    static final int NONE = -1;
    static final int CANNOT_BE = -2;
    static final int FAR_OFF = -1000000;
    static final int LEAST = Integer.MIN_VALUE;
    static final int MOST = Integer.MAX_VALUE;
    static final int ON = 1;
    static final int BACK = 0;

    private final Sentences sentences;
    Told told = new Told();

    Boundaries(Sentences sentences) {
        this.sentences = sentences;
    }

    final void says(int promise, String words) {
        sentences.says(promise, words);
    }

    final void fresh() {
        told = new Told();
    }

    /** From here on another object is asked, that was told a river, and rules. */
    final void river(String river, String... rules) {
        fresh();
        if (told.river(river) < 0) sentences.due("river told: " + river, NONE, 0);
        for (String rule : rules) if (told.rule(rule) < 0) sentences.due("rule told: " + rule, NONE, 0);
    }

    final void is(int want, String call, int... with) {
        sentences.due(Told.label(call, with), told.call(call, with), want);
    }

    final void isTold(String what, int got, int want) {
        sentences.due(what, got, want);
    }

    final void nights(int n) {
        for (int i = 0; i < n; i++) told.call("night");
    }

    /** A call after which all is as it was, now and in what is undone or gone back to. */
    final void stays(int want, String call, int... with) {
        Told one = told.twin();
        is(want, call, with);
        sentences.same(Told.label(call, with), told.twin().foundOut(), one.foundOut());
    }

    final void none(String call, int... with) {
        stays(NONE, call, with);
    }

    /** An ACT that is UNDONE: all is as it was. */
    final void undone(int want, String call, int... with) {
        Told other = told.twin();
        int acts = told.call("count", 11);
        is(want, call, with);
        is(acts + 1, "count", 11);
        is(acts, "undo");
        sentences.same(Told.label(call, with) + " undone", told.twin().foundOut(), other.foundOut());
    }

    /** A text with a ~ where its FAULT is: that FAULT, an empty TAPE, and all else stays. */
    final void faulty(String reading, int kind, String marked) {
        Told other = told.twin();
        other.call("end", 0);
        String text = marked.replace("~", "");
        int want = -2 - (1 + 8 * marked.indexOf('~') + kind);
        int got = reading.equals("river") ? told.river(text) : told.rule(text);
        sentences.due(reading + " of: " + marked, got, want);
        sentences.same(reading + " of: " + marked, told.twin().foundOut(), other.foundOut());
    }

    static String times(int n, String text) {
        return text.repeat(n);
    }

    /**
     * Two barges apart, after all kinds of ACTS. BARGE 0 is AT 1 with books 0 (SHELF 0), 1 (2) and 7 (1), WATER 5, BARGE 1
     * AT 3 with book 3; book 2 LEFT at 0, book 6 at 3, book 5 with reader 0 till DAY 5, book 4 gone in hole 1. All BOOKS
     * ABOARD have DAMP 1. Reader 1 at 1 and reader 2 at 0 have none. IMAGES 0 and 2; two RULES; 15 bytes on the TAPE.
     */
    final void busy() {
        river("barge 3 10 5 4;barge 2 0 10 9;book 8 5 0 0;book 6 9 0 2;book 3 1 0 1;book 7 2 1 0;book 9 4 0 1;"
            + "book 2 3 0 1;book 1 0 1 1;book 4 0 0 1;stop 30;stop 30 40;stop 30;stop 5;reader 1 2 5;reader 1 0 1;"
            + "reader 0 9 99;wish 0 1 20;wish 1 0 5;hole 0 5;hole 0 3;hole 1 2", "lend weight", "fetch day > 0;lend 0 - weight");
        told.call("seed", 77);
        told.call("leave", 2);
        told.call("plug", 1, 4);
        told.call("image", 0);
        told.call("sail", 0, ON);
        told.call("lend", 5, 0);
        told.call("night");
        told.call("image", 2);
        told.call("leave", 6);
        told.call("rain");
        told.tape("lend weight * 3");
    }

    /**
     * Two barges at STOP 1 of three: books 0 (SHELF 2) and 1 (0) aboard BARGE 0, book 2 (0) aboard BARGE 1, book 3 LEFT
     * there, book 4 gone in hole 0; reader 0 there has none.
     */
    final void met() {
        river("barge 3 0 1 99;barge 2 0 1 99;book 3 0 0 2;book 2 0 0 0;book 4 0 1 0;book 1 0 1 1;book 2 0 1 1;stop 20;"
            + "stop 20;stop 20;reader 1 1 1;wish 0 0 7;hole 1 2");
        told.call("sail", 0, ON);
        told.call("sail", 1, BACK);
        told.call("leave", 3);
        told.call("plug", 0, 4);
    }
}
