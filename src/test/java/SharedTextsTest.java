/**
 * The texts that the tests under ../shared/tests feed, each read as the RIVER or the RULE that it would be, in one run of
 * calls on one object: there they are fed alone, so that the TAPE is soon full and none is read.
 */
public final class SharedTextsTest {
    private static final String[] FAULTY_RIVERS = {
        "0 barge~",
        "1 barge ~0 1 1 1",
        "1 barge ~9 1 1 1",
        "1 barge 1 1 ~0 1",
        "1 barge 1 1 1 ~0",
        "4 ~stop 1",
        "0 barge 1 1 1 1~",
        "1 barge 1 1 1 1;stop ~0",
        "4 barge 1 1 1 1;stop 1;~barge 1 1 1 1",
        "1 barge 1 1 1 1;book ~0 1 0 0",
        "1 barge 1 1 1 1;book 1 1 ~1 0",
        "1 barge 1 1 1 1;book 1 1 0 ~1",
        "1 barge 1 1 1 1;reader ~0 0 1",
        "1 barge 1 1 1 1;stop 1;reader 0 ~10 1",
        "0 barge 1 1 1 1;stop 1 2 3 4 ~5",
        "1 barge 1 1 1 1;hole ~1 1",
        "1 barge 1 1 1 1;wish ~0 0 1",
        "0 ~barges 1",
        "0 barge 1 1 1 1;~",
        "4 barge 1 1 1 1;barge 1 1 1 1;~barge 1 1 1 1"
    };

    private static final String[] FAULTY_RULES = {
        "0 lend~",
        "0 lend 1 if~",
        "0 fetch~",
        "0 fetch 1~",
        "1 shift ~8 if day = 1",
        "0 shift 1~",
        "0 shift 1 ~day",
        "0 ~lends 1",
        "0 lend ~x",
        "0 lend 1;~",
        "0 fetch day = 1~]"
    };

    private static int asked = 0;
    private static int wrong = 0;

    private final Told told = new Told();

    public static void main(String[] args) {
        SharedTextsTest run = new SharedTextsTest();
        for (String one : FAULTY_RIVERS) run.faulty("river", one);
        for (String one : FAULTY_RULES) run.faulty("rule", one);
        run.voyages();
        System.out.println(asked + " answers to the shared texts, " + wrong + " wrong");
        if (wrong != 0) System.exit(1);
    }

    private void due(String what, int got, int want) {
        asked++;
        if (got != want) {
            wrong++;
            System.out.println(what + " answered " + got + ", due is " + want);
        }
    }

    private void is(int want, String call, int... with) {
        due(Told.label(call, with), told.call(call, with), want);
    }

    /** A text behind its FAULT's kind, with a ~ where that is. */
    private void faulty(String reading, String one) {
        int kind = one.charAt(0) - '0';
        String marked = one.substring(2);
        told.tape(marked.replace("~", ""));
        due(reading + " of " + marked, told.call(reading), -2 - (1 + 8 * marked.indexOf('~') + kind));
        is(0, "count", 0);
        is(0, "count", 5);
        is(0, "count", 13);
    }

    private void voyages() {
        told.tape("barge 3 10 5 4;barge 2 0 10 9;book 8 5 0 0;book 6 9 0 2;book 3 1 0 1;book 7 2 1 0;stop 9;stop 4 6;stop 7;"
            + "reader 1 2 3;wish 0 1 20;wish 0 2 5;hole 0 5");
        is(4, "river");
        told.tape("fetch day > 0;lend 0 - weight");
        is(0, "rule");
        // From 0 on the DRAWS are 0, 21468, 9988, 22117, 3498, 16927: RAIN and book 0 gnawed, so LOAD is 10+8+7+4+5, TILT -2,
        // DRAUGHT 7, without book 0 6+3, without book 1 too 4: both LEFT at STOP 0. At 1 she has 10+4+10, DRAUGHT 5, and
        // PASSES the last; there the third STOP is the end of all. The other VOYAGES go likewise, whatever is drawn: LOAD
        // is 31 at least, without book 0 23 at least, without book 1 too 19 at most, and behind the next NIGHT 25.
        is(3, "voyages", 0, 0, 3, 4, 50, 0);
        is(0, "voyages", 0, 0, 3, 4, 50, 1);
        is(6, "voyages", 0, 0, 3, 4, 50, 2);
    }
}
