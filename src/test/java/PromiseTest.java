import java.nio.charset.StandardCharsets;

/** Each promise of the document by answers that were worked out by hand: ordinary inputs, edges, wrong inputs. */
public final class PromiseTest {
    private static final int NONE = -1;
    private static final int CANNOT_BE = -2;
    private static final int FAR_OFF = -1000000;

    /**
     * BARGE 0 lies at LOAD 10+8+6+3 = 27, TILT 8*-2+3*0+6*2 = -4, DRAUGHT 6+1 = 7; BARGE 1 at LOAD 7, TILT -7,
     * DRAUGHT 1+0 = 1.
     */
    private static final String TWO_BARGES = "barge 3 10 5 4;barge 2 0 10 9;book 8 5 0 0;book 6 9 0 2;book 3 1 0 1;"
        + "book 7 2 1 0;stop 9;stop 4 6;stop 7;reader 1 2 3;wish 0 1 20;wish 0 2 5;hole 0 5";

    private static int wrong = 0;
    private static int asked = 0;
    private static String promise = "";

    private BookBarge x = new BookBarge();

    private PromiseTest() {
    }

    private PromiseTest(String river) {
        tell(river);
        if (x.river() < 0) due("river told", -1, 0);
    }

    public static void main(String[] args) {
        new PromiseTest().newObject();
        new PromiseTest().tape();
        new PromiseTest().river();
        new PromiseTest().riverFaults();
        new PromiseTest().rule();
        new PromiseTest().ruleFaults();
        new PromiseTest(TWO_BARGES).looking();
        new PromiseTest("barge 1 0 1 1;stop 5;stop 1 2 3 4;stop 7 8").seasons();
        new PromiseTest(TWO_BARGES).leaveLendFetch();
        new PromiseTest(TWO_BARGES).shiftAndHand();
        new PromiseTest(TWO_BARGES).sail();
        new PromiseTest("barge 1 0 1 1;barge 1 0 1 1;stop 9;hole 0 99;hole 0 7;hole 1 3").nights();
        new PromiseTest(TWO_BARGES).rain();
        new PromiseTest("barge 2 1 1 9;barge 1 0 1 1;book 4 1 0 0;book 5 1 0 1;book 9 1 1 0;stop 9;hole 0 5;hole 0 1")
            .plug();
        new PromiseTest(TWO_BARGES).undo();
        new PromiseTest(TWO_BARGES).run();
        runInOrder();
        ruleWords();
        left();
        lending();
        dear();
        room();
        meeting();
        aboard();
        plugs();
        draws();
        new PromiseTest(TWO_BARGES).images();
        System.out.println(asked + " answers asked, " + wrong + " wrong");
        if (wrong != 0) System.exit(1);
    }

    private static void due(String call, long got, long want) {
        asked++;
        if (got != want) {
            wrong++;
            System.out.println("promise " + promise + ": " + call + " answered " + got + ", due is " + want);
        }
    }

    private void tell(String text) {
        byte[] bytes = text.getBytes(StandardCharsets.ISO_8859_1);
        int[] w = new int[5];
        for (int i = 0; i < bytes.length; i += 20) {
            for (int k = 0; k < 20; k++) {
                int b = i + k < bytes.length ? bytes[i + k] & 255 : 0;
                w[k / 4] = w[k / 4] << 8 | b;
            }
            x.feed(w[0], w[1], w[2], w[3], w[4]);
        }
        x.end(bytes.length);
    }

    private int toldRule(String text) {
        tell(text);
        return x.rule();
    }

    /** Of a text with a ~ where its FAULT is. */
    private static int faultAt(String marked, int kind) {
        return -2 - (1 + 8 * marked.indexOf('~') + kind);
    }

    private void badRiver(int kind, String marked) {
        x = new BookBarge();
        tell(marked.replace("~", ""));
        due("river: " + marked, x.river(), faultAt(marked, kind));
        due("no river came of it", x.count(0), 0);
    }

    private void badRule(int kind, String marked) {
        x = new BookBarge();
        tell(marked.replace("~", ""));
        due("rule: " + marked, x.rule(), faultAt(marked, kind));
        due("no rule came of it", x.count(5), 0);
    }

    private static String times(int n, String text) {
        return text.repeat(n);
    }

    private void newObject() {
        promise = "1";
        for (int what = 0; what <= 13; what++) due("count " + what, x.count(what), 0);
        due("NONE", BookBarge.NONE, NONE);
        due("book", x.book(0, 0), NONE);
        due("stop", x.stop(0, 0), NONE);
        due("reader", x.reader(0, 0), NONE);
        due("wish", x.wish(0, 0), NONE);
        due("lies", x.lies(0, 0), FAR_OFF);
        due("leave", x.leave(0), NONE);
        due("lend", x.lend(0, 0), NONE);
        due("fetch", x.fetch(0, 0, 0), NONE);
        due("shift", x.shift(0, 0), NONE);
        due("hand", x.hand(0, 0), NONE);
        due("sail", x.sail(0, true), NONE);
        due("night", x.night(), NONE);
        due("rain", x.rain(), NONE);
        due("pump", x.pump(0), NONE);
        due("plug", x.plug(0, 0), NONE);
        due("hole", x.hole(0, 0), NONE);
        due("undo", x.undo(), NONE);
        due("run", x.run(0, 0, 1), NONE);
        due("rule told without a river", toldRule("lend 1"), 0);
        due("run", x.run(0, 0, 1), NONE);
        due("left", x.left(0, 0, 0), NONE);
        due("lending", x.lending(0, 0, 0), NONE);
        due("dear", x.dear(0, 0, 0), NONE);
        due("room", x.room(0, 0), NONE);
        due("meeting", x.meeting(), NONE);
        due("aboard", x.aboard(0, 0, 0, 0), NONE);
        due("plugs", x.plugs(0, 0), NONE);
        due("voyages", x.voyages(0, 0, 1, 1, 0, 0), NONE);
        due("back", x.back(0), NONE);
    }

    private void tape() {
        promise = "2, 3";
        due("end", x.end(0), 0);
        due("end", x.end(1), NONE);
        due("end", x.end(-1), NONE);
        for (int n = 20; n <= 380; n += 20) due("feed", x.feed(1, 2, 3, 4, 5), n);
        due("end", x.end(381), NONE);
        due("feed", x.feed(-1, 2, 3, 4, 5), 400);
        due("feed", x.feed(1, 2, 3, 4, 5), NONE);
        due("bytes", x.count(13), 400);
        due("end", x.end(400), 400);
        due("end", x.end(381), 381);
        due("feed", x.feed(1, 2, 3, 4, 5), NONE);
        due("end", x.end(380), 380);
        due("feed", x.feed(1, 2, 3, 4, 5), 400);
        due("end", x.end(0), 0);
        due("feed", x.feed(0x62617267, 0x65203120, 0x31203120, 0x313b7374, 0x6f702039), 20);
        due("river of these bytes, the highest first", x.river(), 0);
        due("depth", x.stop(0, 0), 9);
    }

    private void river() {
        promise = "4";
        tell(TWO_BARGES);
        due("river", x.river(), 4);
        due("bytes", x.count(13), 0);
        due("seed", x.seed(77), 0);
        due("night", x.night(), 1);
        due("water", x.lies(0, 3), 5);
        tell("stop");
        due("a fault", x.river(), -7);
        due("the tape is empty then", x.count(13), 0);
        due("all stays: books", x.count(1), 4);
        due("all stays: water", x.lies(0, 3), 5);
        due("all stays: acts", x.count(11), 1);
        tell(" barge1 0 1 1 ; stop9  8 ;book1 0 0 0;reader0 9 99;wish0 0 9;wish 0 0 99; hole 0 99  ");
        due("blanks as one likes", x.river(), 1);
        due("the wish told last", x.wish(0, 0), 99);
        due("no water", x.lies(0, 3), 0);
        due("day", x.count(6), 0);
        due("x stays", x.count(12), 77);
        due("acts", x.count(11), 0);
        due("undo", x.undo(), NONE);
        tell("barge 8 9999 99 999;barge 00001 00000 00099 1;stop 1 2 3 999;book 99 99 0 7;reader 0 0 1;hole 1 1");
        due("greatest numbers", x.river(), 1);
        tell("barge 1 0 1 1" + times(8, ";stop 1") + times(12, ";book 1 1 0 0") + times(4, ";hole 0 1"));
        due("as many as can be", x.river(), 12);
        tell("barge 1 0 1 1" + times(8, ";stop1") + times(6, ";reader0 0 1") + ";book 1 1 0 0" + times(4, ";hole0 1")
            + times(20, ";wish0 0 9"));
        due("40 clauses", x.river(), 1);
    }

    private void riverFaults() {
        promise = "4, faults";
        badRiver(0, "~");
        badRiver(0, "   ~");
        badRiver(0, "barge~");
        badRiver(0, "barge ~");
        badRiver(1, "barge ~0 1 1 1");
        badRiver(1, "barge ~9 1 1 1");
        badRiver(1, "barge 1 ~10000 1 1");
        badRiver(1, "barge 1 ~000001 1 1");
        badRiver(1, "barge 1 1 ~0 1");
        badRiver(1, "barge 1 1 ~100 1");
        badRiver(1, "barge 1 1 1 ~0");
        badRiver(1, "barge 1 1 1 ~1000");
        badRiver(0, "barge 1 1 1 1~");
        badRiver(0, "barge 1 1 1 1  ~");
        badRiver(0, "barge 1 1 1 1;~");
        badRiver(0, "barge 1 1 1 1 ; ~");
        badRiver(0, "barge 1 1 1 1 ~1");
        badRiver(0, "~barges 1 1 1 1;stop 1");
        badRiver(0, "~Barge 1 1 1 1;stop 1");
        badRiver(0, "barge 1 ~x 1 1;stop 1");
        badRiver(0, "barge 1 ~-1 1 1;stop 1");
        badRiver(0, "~;barge 1 1 1 1;stop 1");
        badRiver(0, "barge 1 1 1 1;~;stop 1");
        badRiver(0, "barge 1 1 1 1~\t;stop 1");
        badRiver(0, "barge 1 1 1 1;stop 1~" + (char) 233);
        badRiver(0, "barge 1 1 1 1;stop 1~" + (char) 0);
        badRiver(0, "barge 1 1 1 1~stop 1");
        badRiver(4, "~stop 1");
        badRiver(4, "~stop");
        badRiver(0, "~stops");
        badRiver(4, "barge 1 1 1 1;barge 1 1 1 1;~barge 1 1 1 1");
        badRiver(4, "barge 1 1 1 1;stop 1;~barge 1 1 1 1");
        badRiver(0, "barge 1 1 1 1;stop 1;~barges 1 1 1 1");
        badRiver(1, "barge 1 1 1 1;stop ~0");
        badRiver(1, "barge 1 1 1 1;stop 1 ~1000");
        badRiver(0, "barge 1 1 1 1;stop 1 2 3 4 ~5");
        badRiver(0, "barge 1 1 1 1;stop 1 2 3 4 ~555555");
        badRiver(0, "barge 1 1 1 1;stop ~;stop 1");
        badRiver(1, "barge 1 1 1 1;book ~0 1 0 0");
        badRiver(1, "barge 1 1 1 1;book ~100 1 0 0");
        badRiver(1, "barge 1 1 1 1;book 1 ~100 0 0");
        badRiver(1, "barge 1 1 1 1;book 1 1 ~1 0");
        badRiver(1, "barge 1 1 1 1;book 1 1 0 ~1");
        badRiver(1, "barge 3 1 1 1;barge 2 1 1 1;book 1 1 0 2;book 1 1 1 ~2");
        badRiver(0, "barge 1 1 1 1;book 1 1 0 0~");
        badRiver(1, "barge 1 1 1 1;reader ~0 0 1");
        badRiver(1, "barge 1 1 1 1;stop 1;reader 0 ~10 1");
        badRiver(1, "barge 1 1 1 1;stop 1;reader 0 0 ~0");
        badRiver(1, "barge 1 1 1 1;stop 1;reader 0 0 ~100");
        badRiver(1, "barge 1 1 1 1;wish ~0 0 1");
        badRiver(1, "barge 1 1 1 1;stop 1;reader 0 0 1;wish 0 ~0 1");
        badRiver(1, "barge 1 1 1 1;stop 1;reader 0 0 1;book 1 1 0 0;wish 0 0 ~0");
        badRiver(1, "barge 1 1 1 1;stop 1;reader 0 0 1;book 1 1 0 0;wish 0 0 ~100");
        badRiver(1, "barge 1 1 1 1;hole ~1 1");
        badRiver(1, "barge 1 1 1 1;hole 0 ~0");
        badRiver(1, "barge 1 1 1 1;hole 0 ~100");
        badRiver(4, "barge 1 0 1 1" + times(12, ";book 1 1 0 0") + ";~book 1 1 0 0");
        badRiver(4, "barge 1 0 1 1" + times(8, ";stop 1") + ";~stop 1");
        badRiver(4, "barge 1 0 1 1;stop 1" + times(6, ";reader 0 0 1") + ";~reader 0 0 1");
        badRiver(4, "barge 1 0 1 1" + times(4, ";hole 0 1") + ";~hole 0 1");
        String forty = "barge1 0 1 1" + times(8, ";stop1") + ";reader0 0 1;book1 1 0 0" + times(4, ";hole0 1")
            + times(25, ";wish0 0 9");
        badRiver(4, forty + ";~wish");
        badRiver(4, forty + ";~stop1");
        badRiver(0, forty + ";~wishes");
        badRiver(0, forty + "; ~");
    }

    private void rule() {
        promise = "5";
        due("rule", toldRule("lend 0 - weight"), 0);
        due("bytes", x.count(13), 0);
        tell("lend");
        due("a fault", x.rule(), -3 - 8 * 4);
        due("the tape is empty then", x.count(13), 0);
        due("rules", x.count(5), 1);
        due("without blanks", toldRule("lend1if1=1;fetch1<2and3>=2or not[day<=0];shift7if draught>99999"), 1);
        due("12 clauses", toldRule("lend 1" + times(11, ";lend 1")), 2);
        due("10 deep", toldRule("fetch " + times(10, "not ") + "day = 1"), 3);
        due("10 deep, more than once", toldRule("fetch " + times(5, "not[") + "day=1" + times(5, "]") + "and "
            + times(10, "[") + "1=1" + times(10, "]")), 4);
        due("60 values and facts", toldRule("fetch " + times(19, "1=1 or ") + "1=1"), 5);
        tell("lend");
        due("there are 6", x.rule(), NONE);
        due("nothing happens", x.count(13), 4);
        due("rules", x.count(5), 6);
    }

    private void ruleFaults() {
        promise = "5, faults";
        badRule(0, "~");
        badRule(0, " ~");
        badRule(0, "lend~");
        badRule(0, "lend 1 if~");
        badRule(0, "fetch~");
        badRule(0, "fetch 1~");
        badRule(1, "shift ~8 if day = 1");
        badRule(0, "shift 1~");
        badRule(0, "shift ~if day = 1");
        badRule(0, "shift 1 ~day");
        badRule(0, "~lends 1");
        badRule(0, "~lendz 1");
        badRule(0, "lend day ~ifa 1 = 1");
        badRule(0, "~barge 1 1 1 1");
        badRule(0, "lend ~x");
        badRule(0, "lend ~if 1 = 1");
        badRule(0, "lend 1;~");
        badRule(0, "lend 1 ~iff 1 = 1");
        badRule(0, "lend ~dayif 1 = 1");
        badRule(0, "lend 1 ~= 1");
        badRule(0, "lend 1 ~1");
        badRule(0, "lend 1 + ~");
        badRule(0, "lend 1 + ~* 2");
        badRule(0, "lend ~-1");
        badRule(0, "lend ~[1]");
        badRule(1, "lend ~100000");
        badRule(1, "lend 1 * ~000000");
        badRule(0, "fetch day = 1~]");
        badRule(0, "fetch [day = 1~");
        badRule(0, "fetch [day = 1~;");
        badRule(0, "fetch [day~] = 1");
        badRule(0, "fetch ~]");
        badRule(0, "fetch day < ~= 1");
        badRule(0, "fetch day =~< 1");
        badRule(0, "fetch day =~= 1");
        badRule(0, "fetch 1 = 1 ~= 1");
        badRule(0, "fetch 1 = ~[1 = 1]");
        badRule(0, "fetch 1 = ~not 1 = 1");
        badRule(0, "fetch ~and 1 = 1");
        badRule(0, "fetch 1 = 1 and ~");
        badRule(0, "fetch 1 = 1 or ~or 1 = 1");
        badRule(0, "fetch 1 = 1 ~if 1 = 1");
        badRule(0, "fetch 1 = 1 ~andnot 1 = 1");
        badRule(0, "fetch 1 ~and 1 = 1");
        badRule(0, "fetch 1 = 1 ~not 1 = 1");
        badRule(2, "fetch " + times(10, "not ") + "~not day = 1");
        badRule(2, "fetch " + times(10, "[") + "~[day = 1");
        badRule(2, "fetch " + times(5, "not[") + "~not");
        badRule(2, "fetch " + times(10, "[") + "1=1 or ~not 1=1");
        badRule(0, "fetch " + times(10, "[") + "1=1" + times(10, "]") + "~[");
        badRule(0, "fetch " + times(10, "not ") + "~nots day = 1");
        badRule(3, "fetch " + times(20, "1=1 or ") + "~1=1");
        badRule(3, "lend 1" + times(59, "+1") + "+~1");
        badRule(3, "fetch 1" + times(59, "+1") + "~=1");
        badRule(3, "fetch 1" + times(58, "+1") + "=~day");
        badRule(3, "lend 1" + times(58, "+1") + ";lend 1;lend ~1");
        badRule(1, "lend ~111111 x");
        badRule(3, "lend 1" + times(59, "+1") + "+~1 x");
        badRule(0, "lend 1" + times(59, "+1") + "+~days");
        badRule(1, "lend 1" + times(59, "+1") + "+~111111");
        badRule(0, "lend 1" + times(59, "+1") + "+~");
        badRule(4, "lend 1" + times(11, ";lend 1") + ";~lend");
        badRule(0, "lend 1" + times(11, ";lend 1") + ";~lendx");
        badRule(0, "lend 1" + times(11, ";lend 1") + ";~");
    }

    private void looking() {
        promise = "6";
        due("weight", x.book(0, 0), 8);
        due("shelf", x.book(1, 1), 2);
        due("worth", x.book(1, 2), 9);
        due("damp", x.book(1, 3), 0);
        due("where", x.book(0, 4), 100);
        due("where", x.book(3, 4), 101);
        due("loans", x.book(0, 5), 0);
        due("due day", x.book(0, 6), NONE);
        due("what", x.book(0, 7), NONE);
        due("what", x.book(0, -1), NONE);
        due("book", x.book(4, 0), NONE);
        due("book", x.book(-1, 0), NONE);
        promise = "7";
        due("depth", x.stop(1, 0), 4);
        due("left there", x.stop(1, 1), 0);
        due("barge 0 passes", x.stop(2, 2), 1);
        due("barge 0 does not", x.stop(1, 2), 0);
        due("barge 1 passes", x.stop(1, 3), 1);
        due("readers", x.stop(1, 4), 1);
        due("readers", x.stop(0, 4), 0);
        due("what", x.stop(0, 5), NONE);
        due("what", x.stop(0, -1), NONE);
        due("stop", x.stop(3, 0), NONE);
        due("stop", x.stop(-1, 0), NONE);
        promise = "8";
        due("stop", x.reader(0, 0), 1);
        due("thumb", x.reader(0, 1), 2);
        due("days", x.reader(0, 2), 3);
        due("book", x.reader(0, 3), NONE);
        due("lent", x.reader(0, 4), 0);
        due("what", x.reader(0, 5), NONE);
        due("reader", x.reader(1, 0), NONE);
        due("reader", x.reader(-1, 0), NONE);
        promise = "9";
        due("wish", x.wish(0, 1), 20);
        due("no wish", x.wish(0, 0), 0);
        due("reader", x.wish(1, 0), NONE);
        due("book", x.wish(0, 4), NONE);
        due("book", x.wish(0, -1), NONE);
        promise = "10";
        due("load", x.lies(0, 0), 27);
        due("tilt", x.lies(0, 1), -4);
        due("draught", x.lies(0, 2), 7);
        due("water", x.lies(0, 3), 0);
        due("at", x.lies(0, 4), 0);
        due("at the last", x.lies(1, 4), 2);
        due("earned", x.lies(0, 5), 0);
        due("shelves", x.lies(1, 6), 2);
        due("load", x.lies(1, 0), 7);
        due("tilt", x.lies(1, 1), -7);
        due("draught", x.lies(1, 2), 1);
        due("what", x.lies(0, 7), FAR_OFF);
        due("what", x.lies(0, -1), FAR_OFF);
        due("barge", x.lies(2, 0), FAR_OFF);
        due("barge", x.lies(-1, 0), FAR_OFF);
        promise = "21";
        due("barge", x.hole(0, 0), 0);
        due("water", x.hole(0, 1), 5);
        due("stopped", x.hole(0, 2), 0);
        due("what", x.hole(0, 3), NONE);
        due("hole", x.hole(1, 0), NONE);
        promise = "33";
        int[] counts = {2, 4, 3, 1, 1, 0, 0, 4, 0, 0, 0, 0, 0, 0};
        for (int what = 0; what < 14; what++) due("count " + what, x.count(what), counts[what]);
        due("count", x.count(14), NONE);
        due("count", x.count(-1), NONE);
    }

    private void seasons() {
        promise = "7, seasons";
        due("without barge 1", x.stop(0, 3), NONE);
        for (int day = 0; day <= 361; day++) {
            int season = day / 90 % 4;
            if (day % 90 == 0 || day % 90 == 89 || day % 90 == 1) {
                due("one depth", x.stop(0, 0), 5);
                due("four depths on day " + day, x.stop(1, 0), 1 + season);
                due("two depths on day " + day, x.stop(2, 0), season == 0 ? 7 : 8);
            }
            x.night();
        }
    }

    private void leaveLendFetch() {
        promise = "11";
        due("not there", x.leave(4), NONE);
        due("leave", x.leave(1), 9);
        due("leave twice", x.leave(1), NONE);
        due("lies at stop 0", x.book(1, 4), 0);
        due("stood last on", x.book(1, 1), 2);
        due("left there", x.stop(0, 1), 2);
        due("left", x.count(8), 1);
        due("leave from barge 1", x.leave(3), 0);
        due("lies at stop 2", x.book(3, 4), 2);
        promise = "13";
        due("not at her stop", x.fetch(3, 0, 0), NONE);
        due("aboard already", x.fetch(0, 0, 0), NONE);
        due("shelf", x.fetch(1, 0, 3), NONE);
        due("shelf", x.fetch(1, 0, -1), NONE);
        due("barge", x.fetch(1, 2, 0), NONE);
        due("book", x.fetch(4, 0, 0), NONE);
        due("fetch", x.fetch(1, 0, 1), 6 + 16 / 4);
        due("undo", x.undo(), 2);
        due("fetch", x.fetch(1, 0, 2), 7);
        due("no damp from a stop", x.book(1, 3), 0);
        due("leave 0", x.leave(0), 4 + 12 / 4);
        due("leave 1", x.leave(1), 3);
        due("on", x.sail(0, true), 1);
        promise = "12";
        due("a reader that is none", x.lend(2, 1), NONE);
        due("not aboard", x.lend(1, 0), NONE);
        due("lend", x.lend(2, 0), 2);
        due("with reader 0", x.book(2, 4), 200);
        due("till day 3", x.book(2, 6), 3);
        due("loans", x.book(2, 5), 1);
        due("reader has", x.reader(0, 3), 2);
        due("reader was lent", x.reader(0, 4), 1);
        due("coins", x.lies(0, 5), 5);
        due("with readers", x.count(9), 1);
        due("pump", x.pump(0), NONE);
        promise = "13, from a reader";
        due("his days are not over", x.fetch(2, 0, 1), NONE);
        x.night();
        x.night();
        due("nor yet", x.fetch(2, 0, 1), NONE);
        x.night();
        due("they are: load 10+15+3+2", x.fetch(2, 0, 1), 6);
        due("damp by thumb", x.book(2, 3), 2);
        due("reader has none", x.reader(0, 3), NONE);
        due("due day", x.book(2, 6), NONE);
        due("reader was lent", x.reader(0, 4), 1);
        promise = "12, once more";
        due("lend again", x.lend(2, 0), 5);
        due("till day 6", x.book(2, 6), 6);
        due("back to stop 0", x.sail(0, false), 0);
        due("fetch 0", x.fetch(0, 0, 0), 7 + 16 / 4);
        due("reader not here", x.lend(0, 0), NONE);
        damp();
        manyReaders();
    }

    private void damp() {
        promise = "13, damp";
        PromiseTest t = new PromiseTest("barge 1 0 1 1;book 1 0 0 0;stop 99;reader 0 9 1;reader 0 9 1");
        t.x.rain();
        due("lend", t.x.lend(0, 0), 0);
        due("no coins without a wish", t.x.lies(0, 5), 0);
        due("a lent book is not wetted", t.x.rain(), NONE);
        t.x.night();
        due("9 damp at most", t.x.fetch(0, 0, 0), 10);
        due("damp", t.x.book(0, 3), 9);
        due("all are wet", t.x.rain(), NONE);
    }

    private void manyReaders() {
        promise = "12, readers";
        PromiseTest t = new PromiseTest("barge 1 0 1 1;book 1 0 0 0;book 2 0 0 0;stop 99;reader 0 0 1;reader 0 0 1");
        due("lend", t.x.lend(0, 1), 2);
        due("he has one", t.x.lend(1, 1), NONE);
        due("lend", t.x.lend(1, 0), 0);
        due("with reader 1", t.x.book(0, 4), 201);
        due("with reader 0", t.x.book(1, 4), 200);
        due("readers", t.x.stop(0, 4), 3);
    }

    private void shiftAndHand() {
        promise = "14";
        due("the shelf it is on", x.shift(0, 0), NONE);
        due("shelf", x.shift(0, 3), NONE);
        due("shelf", x.shift(0, -1), NONE);
        due("book", x.shift(4, 0), NONE);
        due("shift to the middle: tilt 12", x.shift(0, 1), 6 + 3);
        due("shelf", x.book(0, 1), 1);
        due("tilt", x.lies(0, 1), 12);
        x.leave(0);
        due("not aboard", x.shift(0, 2), NONE);
        promise = "15";
        due("not at one stop", x.hand(1, 0), NONE);
        due("barge 1 back", x.sail(1, false), 1);
        due("barge 1 back", x.sail(1, false), 0);
        due("not aboard", x.hand(0, 0), NONE);
        due("shelf of the other", x.hand(1, 2), NONE);
        due("hand: load 13, tilt -7+6", x.hand(1, 1), 2);
        due("where", x.book(1, 4), 101);
        due("shelf", x.book(1, 1), 1);
        due("hand to barge 0: load 10+3+7, tilt 7*2", x.hand(3, 2), 4 + 14 / 4);
        due("shelf", x.hand(3, 2), NONE);
        due("hand over again", x.hand(3, 0), 2);
        PromiseTest one = new PromiseTest("barge 1 0 1 1;book 1 0 0 0;stop 9");
        due("one barge", one.x.hand(0, 0), NONE);
    }

    private void sail() {
        promise = "16";
        due("back from stop 0", x.sail(0, false), NONE);
        due("too deep", x.sail(0, true), NONE);
        due("on from the last", x.sail(1, true), NONE);
        due("back", x.sail(1, false), 1);
        due("on", x.sail(1, true), 2);
        due("barge", x.sail(2, true), NONE);
        due("barge", x.sail(-1, true), NONE);
        due("leave 0", x.leave(0), 4 + 3);
        due("leave 1: load 13", x.leave(1), 3);
        due("on", x.sail(0, true), 1);
        due("as deep as she lies", new PromiseTest("barge 1 4 1 1;stop 1;stop 4;stop 3").x.sail(0, true), 1);
        due("an inch too deep", new PromiseTest("barge 1 5 1 1;stop 1;stop 4;stop 3").x.sail(0, true), NONE);
    }

    private void nights() {
        promise = "17, 19";
        due("night", x.night(), 1);
        due("water", x.lies(0, 3), 106);
        due("water", x.lies(1, 3), 3);
        due("load", x.lies(0, 0), 106);
        due("pump", x.pump(0), 106);
        due("pump", x.pump(0), NONE);
        due("pump", x.pump(2), NONE);
        due("pump", x.pump(-1), NONE);
        due("water", x.lies(1, 3), 3);
        due("undo", x.undo(), 1);
        due("water", x.lies(0, 3), 106);
        for (int night = 2; night <= 100; night++) due("night", x.night(), night);
        due("9999 at most", x.lies(0, 3), 9999);
        due("water", x.lies(1, 3), 300);
        due("draught", x.lies(0, 2), 9999);
        due("day", x.count(6), 100);
    }

    private void rain() {
        promise = "18";
        x.leave(0);
        due("rain", x.rain(), 3);
        due("not aboard", x.book(0, 3), 0);
        due("damp", x.book(3, 3), 1);
        due("load 10+6+3 and 2", x.lies(0, 0), 21);
        due("tilt 7*2", x.lies(0, 1), 14);
        for (int i = 2; i <= 9; i++) due("rain", x.rain(), 3);
        due("no more", x.rain(), NONE);
        due("damp", x.book(3, 3), 9);
        x.fetch(0, 0, 0);
        due("one more", x.rain(), 1);
        due("acts", x.count(11), 12);
    }

    private void plug() {
        promise = "20";
        due("too light", x.plug(0, 0), NONE);
        due("too light even if wet", x.rain() + x.plug(0, 0), 3 + NONE);
        due("aboard the other", x.plug(0, 2), NONE);
        due("hole", x.plug(2, 1), NONE);
        due("hole", x.plug(-1, 1), NONE);
        due("book", x.plug(0, 3), NONE);
        due("plug: load 1+4+1, tilt -5", x.plug(0, 1), 6);
        due("gone", x.book(1, 4), 300);
        due("stopped", x.hole(0, 2), 1);
        due("gone", x.count(10), 1);
        due("stopped already", x.plug(0, 0), NONE);
        due("gone already", x.plug(1, 1), NONE);
        due("gone: leave", x.leave(1), NONE);
        due("gone: fetch", x.fetch(1, 0, 0), NONE);
        x.night();
        due("water of hole 1 alone", x.lies(0, 3), 1);
        due("undo", x.undo() + x.undo(), 2 + 1);
        due("open again", x.hole(0, 2), 0);
        due("aboard again", x.book(1, 4), 100);
    }

    private void undo() {
        promise = "22";
        due("nothing yet", x.undo(), NONE);
        x.leave(1);
        x.leave(2);
        x.leave(0);
        due("acts", x.count(11), 3);
        due("what does nothing is no act", x.leave(0) + x.pump(0) + x.shift(0, 0), 3 * NONE);
        due("acts", x.count(11), 3);
        x.sail(0, true);
        x.night();
        due("undo the night", x.undo(), 4);
        due("day", x.count(6), 0);
        due("water", x.lies(0, 3), 0);
        due("undo the sailing", x.undo(), 3);
        due("at", x.lies(0, 4), 0);
        due("undo", x.undo(), 2);
        due("where", x.book(0, 4), 100);
        x.seed(5);
        due("undo", x.undo(), 1);
        due("x stays", x.count(12), 5);
        due("undo", x.undo(), 0);
        due("none can", x.undo(), NONE);
        due("draught", x.lies(0, 2), 7);
        for (int i = 0; i < 25; i++) x.night();
        due("20 at most", x.count(11), 20);
        for (int i = 19; i >= 0; i--) due("undo", x.undo(), i);
        due("the eldest are forgotten", x.undo(), NONE);
        due("day", x.count(6), 5);
        lendUndone();
    }

    private void lendUndone() {
        PromiseTest t = new PromiseTest("barge 1 0 1 1;book 1 0 0 0;stop 9;reader 0 2 1;wish 0 0 7");
        t.x.lend(0, 0);
        t.x.night();
        t.x.fetch(0, 0, 0);
        due("undo the fetching", t.x.undo(), 2);
        due("with reader", t.x.book(0, 4), 200);
        due("damp", t.x.book(0, 3), 0);
        due("till", t.x.book(0, 6), 1);
        due("undo", t.x.undo() + t.x.undo(), 1);
        due("coins", t.x.lies(0, 5), 0);
        due("loans", t.x.book(0, 5), 0);
        due("reader was lent", t.x.reader(0, 4), 0);
        due("reader has", t.x.reader(0, 3), NONE);
    }

    private void run() {
        promise = "23";
        due("no rule", x.run(0, 0, 1), NONE);
        due("rule", toldRule("fetch day > 0;lend 0 - weight"), 0);
        due("rule", toldRule("lend worth if worth > 4"), 1);
        due("rule", x.run(2, 0, 1), NONE);
        due("rule", x.run(-1, 0, 1), NONE);
        due("barge", x.run(0, 2, 1), NONE);
        due("n", x.run(0, 0, 0), NONE);
        due("n", x.run(0, 0, 9), NONE);
        x.image(0);
        x.night();
        due("acts", x.count(11), 1);
        x.pump(0);
        // Book 0 (weight 8) is left, DRAUGHT 4 + 3; then book 1 (6), DRAUGHT 3.
        due("run", x.run(0, 0, 1), 1);
        due("left", x.stop(0, 1), 3);
        due("acts", x.count(11), 0);
        due("undo", x.undo(), NONE);
        due("run to the last stop", x.run(0, 0, 8), 2);
        x.back(0);
        // Only books 0 and 1 can be lent; then no BOOK is left for it, LOAD 13 and DRAUGHT 3 are enough.
        due("run", x.run(1, 0, 1), 1);
        due("left", x.stop(0, 1), 3);
        x.back(0);
        for (int i = 0; i < 3; i++) x.night();
        // LOAD 27 and WATER 15: with book 2 alone 28, DRAUGHT 6, and 4 is not reached.
        due("no book: the end of all", x.run(1, 0, 8), 0);
        due("left all the same", x.stop(0, 1), 3);
    }

    private static void runInOrder() {
        promise = "23, order";
        PromiseTest t = new PromiseTest("barge 2 0 1 99;barge 4 0 1 99;book 5 3 0 0;book 5 1 0 1;book 5 1 0 0;"
            + "stop 99;stop 10;stop 5;reader 0 0 2;reader 0 3 1;wish 0 1 4;wish 1 1 4;wish 1 2 9;wish 0 2 8");
        due("rule", t.toldRule("lend worth"), 0);
        due("run", t.x.run(0, 0, 1), 1);
        due("the least number is lent to the least reader", t.x.book(1, 4), 200);
        due("coins", t.x.lies(0, 5), 4);
        due("run", t.x.run(0, 0, 1), 2);
        due("no reader there: left", t.x.book(2, 4), 1);
        due("barge 1 to stop 0", t.x.sail(1, false) + t.x.sail(1, false), 1);
        due("hand fetched book 2 to barge 1", t.x.fetch(2, 1, 0), NONE);
        for (int i = 0; i < 2; i++) t.x.night();
        due("rule", t.toldRule("fetch loans > 0;shift 3 if 1 = 1;shift 1 if 1 = 1"), 1);
        due("run barge 1: fetches, shifts, goes on", t.x.run(1, 1, 1), 1);
        due("aboard", t.x.book(1, 4), 101);
        due("shelf", t.x.book(1, 1), 3);
        due("fetches none that was not lent", t.x.book(2, 4), 1);
        PromiseTest u = new PromiseTest("barge 2 0 1 99;barge 4 0 1 99;book 5 3 1 3;book 2 3 1 2;stop 9");
        u.x.leave(0);
        u.x.leave(1);
        due("rule", u.toldRule("fetch 1 = 1;shift 3 if 1 = 1;shift 0 if weight = 2"), 0);
        due("at the last stop too", u.x.run(0, 0, 1), 0);
        due("to her last shelf", u.x.book(0, 1) * 1000 + u.x.book(0, 4), 100 + 1000);
        due("the first shelf that she has", u.x.book(1, 1), 0);
        PromiseTest v = new PromiseTest("barge 1 0 1 99;book 5 3 0 0;stop 9;stop 1;reader 0 4 1;wish 0 0 5");
        due("rule", v.toldRule("fetch 1 = 1;lend 0"), 0);
        due("run", v.x.run(0, 0, 1), 1);
        v.x.sail(0, false);
        v.x.night();
        due("fetched from the reader, and lent again", v.x.run(0, 0, 1), 1);
        due("damp", v.x.book(0, 3), 4);
        due("loans", v.x.book(0, 5), 2);
        due("coins", v.x.lies(0, 5), 10);
    }

    /** Three BOOKS on SHELF 0: each for which a TEST holds is shifted to SHELF 1. */
    private static void ruleWords() {
        promise = "23, tests";
        holdsFor("1 = 1", 7);
        holdsFor("book = 1", 2);
        holdsFor("weight = 6", 1);
        holdsFor("worth > 3", 5);
        holdsFor("damp = 1", 7);
        holdsFor("shelf = 0", 7);
        holdsFor("wish = 9", 1);
        holdsFor("wish = 8", 4);
        holdsFor("wish = 0", 2);
        holdsFor("stop = 1", 7);
        holdsFor("depth = 44", 7);
        holdsFor("draught = 30", 7);
        holdsFor("water = 3", 7);
        holdsFor("loans = 1", 4);
        holdsFor("day = 1", 7);
        holdsFor("book < 1", 1);
        holdsFor("book <= 1", 3);
        holdsFor("book >= 1", 6);
        holdsFor("book > 1", 4);
        holdsFor("not book = 1", 5);
        holdsFor("not not book = 1", 2);
        holdsFor("book = 0 or book = 1 and book = 2", 1);
        holdsFor("[book = 0 or book = 1] and not book = 0", 2);
        holdsFor("not [book = 0 or book = 1] or book = 0", 5);
        holdsFor("1 + 2 * 3 - 4 / 2 = 5", 7);
        holdsFor("7 - 2 - 1 = 4", 7);
        holdsFor("12 / 2 * 3 = 18", 7);
        holdsFor("0 - 7 / 2 = 0 - 3", 7);
        holdsFor("5 / book = 5", 2);
        holdsFor("5 / book = 0", 1);
        holdsFor("32768*32768*32768*32768*8 < 0", 7);
        holdsFor("32768*32768*32768*32768*16 = 0", 7);
    }

    private static void holdsFor(String test, int set) {
        // Aboard at stop 1 on day 1, each with DAMP 1: weights 6, 11, 8; WATER 3; LOAD 2+25+3, TILT -25.
        PromiseTest t = new PromiseTest("barge 2 2 1 99;book 5 4 0 0;book 10 3 0 0;book 7 9 0 0;stop 1;stop 99;stop 44;"
            + "reader 1 0 1;reader 1 0 1;reader 2 0 1;hole 0 3;wish 0 2 3;wish 1 2 8;wish 0 0 9;wish 1 0 2;wish 2 1 5");
        t.x.rain();
        t.x.sail(0, true);
        t.x.lend(2, 1);
        t.x.night();
        t.x.fetch(2, 0, 0);
        t.x.image(0);
        int held = 0;
        for (int book = 0; book < 3; book++) {
            int rule = t.toldRule("shift 1 if book = " + book + " and [" + test + "]");
            due("a rule of: " + test, rule, book);
            due("goes on", t.x.run(rule, 0, 1), 2);
            held |= t.x.book(book, 1) << book;
            t.x.back(0);
        }
        due("books for which holds: " + test, held, set);
    }

    private static void left() {
        promise = "24";
        BookBarge x = new PromiseTest(TWO_BARGES).x;
        // To stop 1 (4): without 0 and 1 LOAD 13, DRAUGHT 3, WORTH 14; without 0 and 2 16: 4 + 3; without 1, 2: 4 + 4;
        // without all three 10: 2, WORTH 15.
        due("worth", x.left(0, 1, 0), 14);
        due("set", x.left(0, 1, 1), 3);
        due("up to stop 2", x.left(0, 2, 1), 3);
        due("this stop", x.left(0, 0, 0), NONE);
        due("stop", x.left(0, 3, 0), NONE);
        due("barge", x.left(2, 1, 0), NONE);
        due("what", x.left(0, 1, 2), NONE);
        due("what", x.left(0, 1, -1), NONE);
        due("at the last stop", x.left(1, 2, 0), NONE);
        due("ahead of her", x.left(1, 0, 0), NONE);
        due("nothing changes", x.count(7), 4);
        for (int i = 0; i < 3; i++) x.night();
        due("LOAD 25 without books", x.left(0, 1, 0), CANNOT_BE);
        due("LOAD 25 without books", x.left(0, 1, 1), CANNOT_BE);
        BookBarge y = new PromiseTest("barge 1 0 1 1;book 2 3 0 0;book 2 0 0 0;book 4 3 0 0;book 2 0 0 0;book 9 9 0 0;"
            + "stop 1;stop 19;stop 15;stop 17").x;
        due("none", y.left(0, 1, 1), 0);
        due("none", y.left(0, 1, 0), 0);
        due("the fewest of no worth", y.left(0, 2, 0), 0);
        due("two of no worth", y.left(0, 2, 1), 10);
        due("all stops on the way", y.left(0, 3, 1), 10);
        BookBarge z = new PromiseTest("barge 1 0 1 1;book 2 1 0 0;book 2 2 0 0;book 4 3 0 0;book 2 1 0 0;stop 1;stop 6").x;
        due("worth", z.left(0, 1, 0), 2);
        due("of several the fewest, then the least", z.left(0, 1, 1), 9);
        BookBarge f = new PromiseTest("barge 1 0 1 1;book 2 1 0 0;book 2 1 0 0;book 4 2 0 0;stop 1;stop 4").x;
        due("one rather than two", f.left(0, 1, 1), 4);
        BookBarge b = new PromiseTest("barge 1 0 1 1;book 2 1 0 0;book 2 1 0 0;book 2 1 0 0;stop 1;stop 4").x;
        due("the least as bits", b.left(0, 1, 1), 1);
    }

    private static void lending() {
        promise = "25";
        PromiseTest t = new PromiseTest(TWO_BARGES);
        BookBarge x = t.x;
        due("here there is nobody", x.lending(0, 0, 0), 0);
        due("here there is nobody", x.lending(0, 0, 2), NONE);
        due("she does not pass", x.lending(0, 1, 0), CANNOT_BE);
        for (int what = 2; what <= 7; what++) due("such a reader or not", x.lending(0, 1, what), CANNOT_BE);
        due("inch", x.lending(0, 1, 1), 0);
        due("barge", x.lending(2, 1, 0), NONE);
        due("stop", x.lending(0, 3, 0), NONE);
        due("what", x.lending(0, 0, 8), NONE);
        due("what", x.lending(0, 0, -1), NONE);
        x.leave(0);
        x.shift(1, 1);
        // LOAD 19, TILT 0: DRAUGHT 4.
        due("to stop 1", x.lending(0, 1, 0), 20);
        due("book 1 is lent", x.lending(0, 1, 2), 1);
        due("no such reader", x.lending(0, 1, 3), NONE);
        due("inch", x.lending(0, 1, 1), 0);
        due("ahead of her", x.lending(1, 1, 0), NONE);
        x.sail(0, true);
        due("at stop 1", x.lending(0, 1, 0), 20);
        due("ahead of her", x.lending(0, 0, 0), NONE);
        x.lend(2, 0);
        due("he has one", x.lending(0, 1, 0), 0);
        due("he has one", x.lending(0, 2, 2), NONE);
        // DRAUGHT 12 at first; to pass stop 1 (8) book 0 (4) must go to reader 1 for 1 coin, not to reader 0.
        BookBarge y = new PromiseTest("barge 1 0 1 1;book 4 0 0 0;book 3 0 0 0;book 5 0 0 0;stop 1;stop 8;stop 7;"
            + "reader 2 0 1;reader 0 0 1;reader 0 0 1;wish 0 0 90;wish 1 0 1;wish 2 1 2;wish 0 2 7").x;
        due("all: 1 + 2 + 7", y.lending(0, 2, 0), 10);
        due("reader 0", y.lending(0, 2, 2), 2);
        due("reader 1", y.lending(0, 2, 3), 0);
        due("reader 2", y.lending(0, 2, 4), 1);
        due("inch: 9 at stop 1, 8 at stop 2", y.lending(0, 2, 1), 0);
        due("to stop 1", y.lending(0, 1, 0), 3);
        due("to stop 1: not on the way", y.lending(0, 1, 2), NONE);
        due("inch: 1 + 2 still", y.lending(0, 1, 1), 0);
        due("here", y.lending(0, 0, 0), 3);
        BookBarge z = new PromiseTest("barge 1 0 1 1;book 4 0 0 0;book 4 0 0 0;stop 1;stop 3;reader 1 0 1;reader 0 0 1;"
            + "reader 0 0 1;wish 0 0 9;wish 1 0 5;wish 1 1 5;wish 2 1 4;wish 2 0 4").x;
        due("both must go", z.lending(0, 1, 0), 9);
        due("reader 0", z.lending(0, 1, 2), NONE);
        due("of two ways the first", z.lending(0, 1, 3), 0);
        due("the other", z.lending(0, 1, 4), 1);
        due("inch: 4 passes, 5 + 9", z.lending(0, 1, 1), 5);
        BookBarge n = new PromiseTest("barge 1 0 1 1;book 4 0 0 0;stop 9;reader 0 0 1;reader 0 0 1;reader 0 0 1;"
            + "wish 0 0 3;wish 1 0 3;wish 2 0 3").x;
        due("no book ahead of books", n.lending(0, 0, 2), NONE);
        due("no book ahead of books", n.lending(0, 0, 3), NONE);
        due("the last one has it", n.lending(0, 0, 4), 0);
        BookBarge l = new PromiseTest("barge 1 0 1 1;book 4 0 0 0" + times(7, ";stop 9") + ";stop 3;reader 7 0 1;"
            + "wish 0 0 30").x;
        due("the last of eight stops", l.lending(0, 7, 0), CANNOT_BE);
        due("the last but one", l.lending(0, 6, 0), 0);
        due("an inch for the last", l.lending(0, 7, 1), 30);
        BookBarge c = new PromiseTest("barge 1 0 1 1;book 4 0 0 0;stop 9;stop 3;reader 1 0 1;wish 0 0 30").x;
        due("it can't be: as if 0", c.lending(0, 1, 1), 30);
        due("it can't be", c.lending(0, 1, 0), CANNOT_BE);
    }

    private static void dear() {
        promise = "26";
        BookBarge x = new PromiseTest(TWO_BARGES).x;
        due("it can't be: as if 0", x.dear(0, 1, 0), 0);
        due("reader", x.dear(0, 1, 1), NONE);
        due("stop", x.dear(0, 3, 0), NONE);
        due("barge", x.dear(2, 1, 0), NONE);
        due("ahead of her", x.dear(1, 1, 0), NONE);
        BookBarge z = new PromiseTest("barge 1 0 1 1;book 4 0 0 0;book 4 0 0 0;stop 1;stop 3;reader 1 0 1;reader 0 0 1;"
            + "reader 0 0 1;wish 0 0 9;wish 1 0 5;wish 1 1 5;wish 2 1 4;wish 2 0 4").x;
        due("without him it can't be", z.dear(0, 1, 1), 9);
        due("he has none of it", z.dear(0, 1, 0), 0);
        due("here 4 remain", z.dear(0, 0, 1), 5);
        due("here 5 remain", z.dear(0, 0, 2), 4);
    }

    private static void room() {
        promise = "27";
        BookBarge x = new PromiseTest(TWO_BARGES).x;
        due("she does not pass", x.room(0, 0), CANNOT_BE);
        due("no next stop", x.room(1, 0), CANNOT_BE);
        due("shelf", x.room(0, 3), NONE);
        due("shelf", x.room(0, -1), NONE);
        due("barge", x.room(2, 0), NONE);
        x.sail(1, false);
        // LOAD 7, TILT -7, DEPTH 7. On shelf 0 w: ceil((7 + w) / 10) + (7 + w) / 9: 28 gives 4 + 3, 29 gives 4 + 4.
        due("on shelf 0", x.room(1, 0), 28);
        // On shelf 1: ceil((7 + w) / 10) + (w - 7) / 9: 33 gives 4 + 2, 34 gives 5 + 3.
        due("on shelf 1", x.room(1, 1), 33);
        BookBarge y = new PromiseTest("barge 1 0 1 1;stop 1;stop 999").x;
        due("999 at most", y.room(0, 0), 999);
        BookBarge z = new PromiseTest("barge 1 9 1 1;stop 1;stop 9").x;
        due("no room", z.room(0, 0), 0);
        // ceil((20 + w) / 4) + |w - 20| / 5: 9 at first, 10 for 5, 9 and 13 to 15, 9 again for 16, 10 for 17.
        BookBarge r = new PromiseTest("barge 2 0 4 5;book 20 0 0 0;stop 1;stop 9").x;
        due("a book that rights her passes where lighter ones do not", r.room(0, 1), 16);
    }

    private static void meeting() {
        promise = "28";
        BookBarge x = new PromiseTest(TWO_BARGES).x;
        due("not at one stop", x.meeting(), NONE);
        x.sail(1, false);
        x.sail(1, false);
        // BARGE 0 must lie at 4 or less, BARGE 1 has no stop ahead. Two must go: 0 and 1 leave DRAUGHT 3.
        due("two of them", x.meeting(), 3);
        due("one barge", new PromiseTest("barge 1 0 1 1;stop 1").x.meeting(), NONE);
        BookBarge y = new PromiseTest("barge 1 0 1 1;barge 1 0 1 1;book 5 0 0 0;book 3 0 0 0;book 4 0 1 0;stop 9;stop 5;"
            + "stop 7").x;
        y.sail(1, false);
        due("not yet", y.meeting(), NONE);
        BookBarge z = new PromiseTest("barge 1 0 1 1;barge 1 0 1 1;book 5 0 0 0;book 3 0 0 0;book 4 0 1 0;stop 7;stop 8;"
            + "stop 5").x;
        z.sail(0, true);
        z.sail(1, false);
        // BARGE 0 has 5 + 3 and must come to 5, BARGE 1 has 4 and 7 is the most: book 1 goes over.
        due("one of them", z.meeting(), 2);
        z.hand(1, 0);
        due("none", z.meeting(), 0);
        z.hand(0, 0);
        due("the least as bits", z.meeting(), 1);
        BookBarge c = new PromiseTest("barge 1 9 1 1;barge 1 0 1 1;book 5 0 1 0;stop 8;stop 14;stop 5").x;
        c.sail(0, true);
        c.sail(1, false);
        due("it can't be", c.meeting(), CANNOT_BE);
        BookBarge l = new PromiseTest("barge 1 0 1 1;barge 1 0 1 1" + times(12, ";book 1 0 0 0") + ";stop 12;stop 12;stop 1")
            .x;
        l.sail(0, true);
        l.sail(1, false);
        due("eleven of twelve, the least as bits", l.meeting(), 2047);
        BookBarge e = new PromiseTest("barge 1 1 1 1;barge 1 0 1 1" + times(12, ";book 1 0 0 0") + ";stop 13;stop 13;stop 1")
            .x;
        e.sail(0, true);
        e.sail(1, false);
        due("all twelve", e.meeting(), 4095);
        BookBarge w = new PromiseTest("barge 2 0 9 1;barge 2 0 9 99;book 2 0 0 0;book 1 0 0 0;book 2 0 0 1;book 3 0 0 0;"
            + "stop 9;stop 9;stop 3").x;
        w.sail(0, true);
        w.sail(1, false);
        // BARGE 0 lies at 1 + 4 by her TILT of -4; the TILT of BARGE 1 hardly counts: book 0 or book 3 must go.
        due("her own lean", w.meeting(), 1);
        shelvesOfMeeting();
    }

    private static void shelvesOfMeeting() {
        // Book 0 on shelf 3 of BARGE 0 comes to shelf 1 of BARGE 1, TILT 4 there, 4 / 2 more.
        String river = "barge 4 0 1 99;barge 2 0 1 2;book 4 0 0 3;stop 5;stop 9;stop 3";
        BookBarge x = new PromiseTest(river).x;
        x.sail(0, true);
        x.sail(1, false);
        due("too deep by her tilt", x.meeting(), CANNOT_BE);
        BookBarge y = new PromiseTest(river.replace("stop 5", "stop 6")).x;
        y.sail(0, true);
        y.sail(1, false);
        due("just so", y.meeting(), 1);
    }

    private static void aboard() {
        promise = "29";
        BookBarge x = new PromiseTest(TWO_BARGES).x;
        // BARGE 0, LOAD 10 and: {} 2; 0: 18, -16: 4+4; 1: 16, 12: 4+3; 2: 13: 3; 01: 24, -4: 5+1; 02: 21, -16: 5+4;
        // 12: 19, 12: 4+3; 012: 27, -4: 6+1.
        due("draught 7", x.aboard(0, 7, FAR_OFF, 0), 3);
        due("in all", x.aboard(0, 7, FAR_OFF, 1), 2);
        due("in none", x.aboard(0, 7, FAR_OFF, 2), 0);
        due("with tilt", x.aboard(0, 7, 12, 0), 2);
        due("in all", x.aboard(0, 7, 12, 1), 2);
        due("in none", x.aboard(0, 7, 12, 2), 1);
        due("empty alone", x.aboard(0, 2, FAR_OFF, 0), 1);
        due("in all", x.aboard(0, 2, FAR_OFF, 1), 0);
        due("in none", x.aboard(0, 2, FAR_OFF, 2), 7);
        due("no set", x.aboard(0, 1, FAR_OFF, 0), 0);
        due("no set", x.aboard(0, 1, FAR_OFF, 1), 0);
        due("no set", x.aboard(0, 1, FAR_OFF, 2), 0);
        due("no such tilt", x.aboard(0, 7, 13, 0), 0);
        due("draught", x.aboard(0, -1, 0, 0), NONE);
        due("draught", x.aboard(0, 10000, 0, 0), NONE);
        due("draught", x.aboard(0, 9999, 0, 0), 0);
        due("barge", x.aboard(2, 1, 0, 0), NONE);
        due("what", x.aboard(0, 1, 0, 3), NONE);
        due("what", x.aboard(0, 1, 0, -1), NONE);
        due("barge 1: book 3, or none", x.aboard(1, 1, FAR_OFF, 1) * 10 + x.aboard(1, 0, FAR_OFF, 2), 88);
        x.leave(1);
        // Book 1 stood on shelf 2; on BARGE 1 that is her last: {1}: LOAD 6, TILT 6; {1, 3}: 13, -1: 2.
        due("left ones too", x.aboard(1, 2, -1, 1), 10);
        due("both", x.aboard(1, 1, FAR_OFF, 0), 2);
        x.night();
        x.plug(0, 0);
        due("gone ones not; WATER 5: {} 3, 1: 5+3, 2: 4, 12: 5+3", x.aboard(0, 8, FAR_OFF, 0), 2);
        due("in none", x.aboard(0, 3, FAR_OFF, 2), 6);
    }

    private static void plugs() {
        promise = "30";
        BookBarge x = new PromiseTest("barge 1 0 1 1;barge 1 0 1 1;book 9 5 0 0;book 7 4 0 0;book 7 4 0 0;book 9 0 1 0;"
            + "stop 9;hole 0 7;hole 1 2;hole 0 8;hole 1 99").x;
        due("worth", x.plugs(0, 0), 9);
        due("hole 0", x.plugs(0, 1), 1);
        due("of the other barge", x.plugs(0, 2), NONE);
        due("hole 2", x.plugs(0, 3), 0);
        due("of the other barge", x.plugs(0, 4), NONE);
        for (int what = 0; what <= 4; what++) due("it can't be", x.plugs(1, what), CANNOT_BE);
        due("what", x.plugs(0, 5), NONE);
        due("what", x.plugs(0, -1), NONE);
        due("barge", x.plugs(2, 0), NONE);
        x.plug(2, 0);
        due("one is stopped", x.plugs(0, 0), 4);
        due("none is needed", x.plugs(0, 3), NONE);
        x.plug(0, 2);
        due("all are", x.plugs(0, 0), 0);
        due("none is needed", x.plugs(0, 1), NONE);
        BookBarge y = new PromiseTest("barge 1 0 1 1;book 9 5 0 0;book 9 5 0 0;stop 9;hole 0 9;hole 0 9").x;
        due("the least for the first", y.plugs(0, 1) * 10 + y.plugs(0, 2), 1);
        due("no such hole", y.plugs(0, 4), NONE);
        BookBarge z = new PromiseTest("barge 1 0 1 1;book 8 5 0 0;stop 9;hole 0 8;hole 0 8").x;
        due("one book for two", z.plugs(0, 0), CANNOT_BE);
    }

    private static void draws() {
        promise = "31";
        PromiseTest t = new PromiseTest("barge 1 0 1 1;book 5 0 0 0;book 1 0 0 0;stop 9;stop 4;hole 0 1");
        BookBarge x = t.x;
        due("seed", x.seed(7), 0);
        due("below 0", x.seed(-1), NONE);
        due("x", x.count(12), 7);
        due("seed", x.seed(2147483647), 7);
        due("seed", x.seed(0), 2147483647);
        promise = "32";
        due("no rule", x.voyages(0, 0, 1, 1, 0, 0), NONE);
        due("rule", t.toldRule("lend weight if weight > 3;fetch 1 = 1"), 0);
        int[][] bad = {{-1, 0, 1, 1, 0, 0}, {1, 0, 1, 1, 0, 0}, {0, -1, 1, 1, 0, 0}, {0, 1, 1, 1, 0, 0},
            {0, 0, 0, 1, 0, 0}, {0, 0, 21, 1, 0, 0}, {0, 0, 1, 0, 0, 0}, {0, 0, 1, 9, 0, 0}, {0, 0, 1, 1, -1, 0},
            {0, 0, 1, 1, 101, 0}, {0, 0, 1, 1, 0, -1}, {0, 0, 1, 1, 0, 3}};
        for (int[] b : bad) due("wrong", x.voyages(b[0], b[1], b[2], b[3], b[4], b[5]), NONE);
        // x 0 -> 12345 (draw 0), then 12345 * 1103515245 + 12345 mod 2^31 = 1406932606 (draw 21468, even: book 0).
        // WATER 1, DAMP 0, book 0 weighs 4: LOAD 6 > 4: it is left, LOAD 2.
        due("one voyage, p 0: there", x.voyages(0, 0, 1, 1, 0, 0), 1);
        due("lent", x.voyages(0, 0, 1, 1, 0, 1), 0);
        due("left", x.voyages(0, 0, 1, 1, 0, 2), 1);
        // Draw 0 is below 1: RAIN. LOAD 1 + 5 + 2; book 0 is left, LOAD 1 + 2.
        due("p 1: rain", x.voyages(0, 0, 1, 1, 1, 2), 1);
        due("nothing stays: day", x.count(6), 0);
        due("nothing stays: x", x.count(12), 0);
        due("nothing stays: books", x.count(7) * 10 + x.book(0, 0), 25);
        due("nothing stays: at", x.lies(0, 4), 0);
        mice();
        voyagesByHand();
        BookBarge none = new PromiseTest("barge 1 0 1 1;stop 9;stop 9").voyagesWithout();
        due("without books, at the last", none.voyages(0, 0, 20, 8, 50, 0), 20);
    }

    private static void mice() {
        // Draw 0 is not below 0: no RAIN, so that 6 and 1 WATER pass 7.
        due("p 0", voyageLeft("barge 1 0 1 1;book 6 0 0 0;stop 9;stop 7;hole 0 1", 0), 0);
        due("p 1, but the mice take 1", voyageLeft("barge 1 0 1 1;book 6 0 0 0;stop 9;stop 7;hole 0 1", 1), 0);
        due("p 1", voyageLeft("barge 1 0 1 1;book 7 0 0 0;stop 9;stop 7;hole 0 1", 1), 1);
        due("one book: mice", voyageLeft("barge 1 0 1 1;book 6 0 0 0;stop 9;stop 5", 0), 0);
        due("of weight 2", voyageLeft("barge 1 4 1 1;book 2 0 0 0;stop 9;stop 5", 0), 0);
        due("not of weight 1", voyageLeft("barge 1 5 1 1;book 1 0 0 0;stop 9;stop 5", 0), 1);
        due("not of weight 1, if damp", voyageLeft("barge 1 5 1 1;book 1 0 0 0;stop 9;stop 6", 1), 1);
        // The mice come to book 0 of two. Aboard the other it keeps its weight, but she does not sail.
        due("of two", voyageLeft("barge 1 0 1 1;book 2 0 0 0;book 3 0 0 0;stop 9;stop 4", 0), 0);
        due("aboard the other", voyageLeft("barge 1 0 1 1;barge 1 0 1 1;book 3 0 1 0;book 3 0 0 0;stop 9;stop 3", 0), 0);
        PromiseTest t = new PromiseTest("barge 1 0 1 1;book 6 0 0 0;stop 9;stop 4");
        t.toldRule("fetch weight < 6;lend weight");
        t.x.leave(0);
        due("not of one that is left: it would be fetched, and left again", t.x.voyages(0, 0, 1, 1, 0, 2), 0);
    }

    /** How many are LEFT on one VOYAGE of one STOP with x 0: the draws are 0 and 21468. */
    private static int voyageLeft(String river, int p) {
        PromiseTest t = new PromiseTest(river);
        t.toldRule("lend weight");
        return t.x.voyages(0, 0, 1, 1, p, 2);
    }

    private BookBarge voyagesWithout() {
        toldRule("lend 1");
        return x;
    }

    /** Voyages worked out once more by calls that are ACTS, with draws counted here. */
    private static void voyagesByHand() {
        PromiseTest t = new PromiseTest("barge 2 0 1 9;book 9 0 0 0;book 8 0 0 1;book 7 0 0 0;stop 9;stop 22;stop 20;stop 16;"
            + "reader 1 0 1;wish 0 2 5;wish 0 1 5;hole 0 2");
        due("rule", t.toldRule("lend weight"), 0);
        int seed = 4711;
        t.x.seed(seed);
        long draws = seed;
        int there = 0, lent = 0, left = 0;
        for (int voyage = 0; voyage < 6; voyage++) {
            int[] weight = {9, 8, 7};
            boolean[] aboard = {true, true, true};
            int water = 0, at = 0;
            int[] damp = {0, 0, 0};
            boolean readerHas = false;
            int[] depth = {9, 22, 20, 16};
            for (int k = 0; k < 3; k++) {
                water += 2;
                draws = (draws * 1103515245L + 12345L) % 2147483648L;
                if (draws / 65536 % 100 < 40) {
                    for (int b = 0; b < 3; b++) if (aboard[b] && damp[b] < 9) damp[b]++;
                }
                draws = (draws * 1103515245L + 12345L) % 2147483648L;
                int mouse = (int) (draws / 65536 % 3);
                if (aboard[mouse] && weight[mouse] > 1) weight[mouse]--;
                boolean passes = false;
                while (!passes) {
                    int load = water, tilt = 0, least = NONE;
                    for (int b = 0; b < 3; b++) {
                        if (!aboard[b]) continue;
                        load += weight[b] + damp[b];
                        tilt += (weight[b] + damp[b]) * (b == 1 ? 1 : -1);
                        if (least == NONE || weight[b] + damp[b] < weight[least] + damp[least]) least = b;
                    }
                    passes = load + Math.abs(tilt) / 9 <= depth[at + 1];
                    if (passes) break;
                    aboard[least] = false;
                    if (at == 1 && !readerHas && least != 0) {
                        readerHas = true;
                        lent++;
                    } else {
                        left++;
                    }
                }
                at++;
            }
            there++;
        }
        due("there", t.x.voyages(0, 0, 6, 3, 40, 0), there);
        due("lent", t.x.voyages(0, 0, 6, 3, 40, 1), lent);
        due("left", t.x.voyages(0, 0, 6, 3, 40, 2), left);
    }

    private void images() {
        promise = "34, 35";
        due("never made", x.back(0), NONE);
        due("k", x.image(4), NONE);
        due("k", x.image(-1), NONE);
        due("k", x.back(4), NONE);
        due("k", x.back(-1), NONE);
        BookBarge empty = new BookBarge();
        due("image without a river", empty.image(0), 0);
        x.night();
        x.seed(9);
        due("image", x.image(3), 1);
        due("acts stay", x.count(11), 1);
        x.leave(0);
        x.night();
        x.seed(10);
        toldRule("lend 1");
        x.feed(1, 2, 3, 4, 5);
        due("another", x.image(0), 2);
        due("back", x.back(3), 1);
        due("x", x.count(12), 9);
        due("day", x.count(6), 1);
        due("where", x.book(0, 4), 100);
        due("water", x.lies(0, 3), 5);
        due("rules stay", x.count(5), 1);
        due("the tape stays", x.count(13), 20);
        due("undo", x.undo(), NONE);
        due("forth", x.back(0), 2);
        due("where", x.book(0, 4), 0);
        due("x", x.count(12), 10);
        x.end(0);
        tell("barge 1 1 1 1;stop 7");
        due("another river", x.river(), 0);
        due("back to the first", x.back(3), 1);
        due("books", x.count(1), 4);
        x.night();
        due("the image is as it was", x.back(3), 1);
        due("day", x.count(6), 1);
    }
}
