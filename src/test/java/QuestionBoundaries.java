/** The bounds of what is asked: LEFT, LENDING, DEAR, ROOM, MEETING, ABOARD, PLUGS, VOYAGES; x, counts and IMAGES. */
final class QuestionBoundaries extends Boundaries {
    private static final int TERMS = Sentences.TERMS;
    private static final String ONE = "barge 1 0 1 1;";

    QuestionBoundaries(Sentences sentences) {
        super(sentences);
    }

    void all() {
        nothingChanges();
        left();
        lending();
        lendingRows();
        inchAndDear();
        room();
        meeting();
        meetingShelves();
        aboard();
        plugs();
        seed();
        draws();
        voyages();
        voyagesEnd();
        count();
        images();
    }

    private void nothingChanges() {
        says(TERMS, "(By what is asked nothing changes. DAY and seasons are as now.)");
        busy();
        stays(0, "left", 0, 2, 0);
        stays(14, "left", 0, 3, 0);
        stays(3, "left", 0, 3, 1);
        stays(5, "lending", 0, 1, 0);
        stays(0, "lending", 0, 1, 3);
        stays(CANNOT_BE, "lending", 0, 3, 0);
        stays(0, "lending", 0, 3, 1);
        stays(5, "dear", 0, 2, 1);
        stays(31, "room", 0, 0);
        stays(109, "room", 0, 1);
        stays(34, "room", 0, 2);
        stays(1, "aboard", 0, 3, FAR_OFF, 0);
        stays(231, "aboard", 0, 3, FAR_OFF, 2);
        stays(5, "plugs", 0, 0);
        stays(3, "plugs", 1, 3);
        for (int what = 0; what <= 2; what++) stays(0, "voyages", 0, 0, 1, 1, 100, what);
        stays(0, "voyages", 1, 0, 20, 8, 50, 1);
        met();
        stays(0, "meeting");
        // On DAY 90 the DEPTH of 3 is 9: it is asked of that one.
        river("barge 1 9 1 1;book 1 7 0 0;stop 9;stop 3 10 2;reader 0 0 1;wish 0 0 5");
        nights(89);
        is(CANNOT_BE, "left", 0, 1, 0);
        is(CANNOT_BE, "room", 0, 0);
        nights(1);
        is(0, "left", 0, 1, 0);
        is(0, "room", 0, 0);
        is(5, "lending", 0, 1, 0);
        nights(90);
        is(CANNOT_BE, "lending", 0, 1, 0);
    }

    private void left() {
        says(TERMS, "LEFT of a BARGE for a STOP (behind the one she is AT): BOOKS ABOARD her to be LEFT here (SHIFTED none) so that she"
            + " PASSES all STOPS up to it: least WORTH together, of several the fewest, then the least as bits.");
        river("barge 1 0 1 1;barge 1 0 1 1;book 4 3 0 0;book 2 2 0 0;book 2 1 0 0;book 9 0 1 0;book 8 0 0 0;stop 1;stop 8;stop 7;"
            + "stop 3");
        told.call("leave", 4);
        is(0, "left", 0, 1, 0);
        is(0, "left", 0, 1, 1);
        is(1, "left", 0, 2, 0);
        is(4, "left", 0, 2, 1);
        is(4, "left", 0, 3, 0);
        is(5, "left", 0, 3, 1);
        told.call("sail", 0, ON);
        is(1, "left", 0, 2, 0);
        // A shallow STOP on the way counts, one behind it does not.
        river(ONE + "book 2 5 0 0;book 3 4 0 0;stop 9;stop 2;stop 9;stop 1");
        is(2, "left", 0, 1, 1);
        is(2, "left", 0, 2, 1);
        is(3, "left", 0, 3, 1);
        river(ONE + "book 2 1 0 0;book 2 1 0 0;book 4 2 0 0;stop 1;stop 4");
        is(2, "left", 0, 1, 0);
        is(4, "left", 0, 1, 1);
        river(ONE + "book 2 1 0 0;book 2 1 0 0;book 2 1 0 0;stop 1;stop 4");
        is(1, "left", 0, 1, 1);
        river(ONE + "book 1 0 0 0;book 2 0 0 0;book 3 0 0 0;stop 1;stop 3");
        is(4, "left", 0, 1, 1);
        river("barge 1 5 1 1" + times(12, ";book 1 9 0 0") + ";stop 5;stop 5");
        is(108, "left", 0, 1, 0);
        is(4095, "left", 0, 1, 1);
        // SHIFTED none: without book 1 her TILT is as deep as book 1 was.
        river("barge 2 0 1 1;book 5 9 0 0;book 5 1 0 1;stop 1;stop 10;stop 9");
        is(0, "left", 0, 1, 1);
        is(10, "left", 0, 2, 0);
        is(3, "left", 0, 2, 1);
        river("barge 2 0 5 3;book 5 9 0 0;book 9 1 0 1;stop 1;stop 3");
        is(1, "left", 0, 1, 0);
        is(2, "left", 0, 1, 1);
        says(24, "LEFT what 0: WORTH, 1: the set;");
        river(ONE + "book 9 7 0 0;book 9 6 0 0;stop 1;stop 9");
        is(6, "left", 0, 1, 0);
        is(2, "left", 0, 1, 1);
        says(24, "-2: it can't be;");
        river("barge 1 6 1 1;book 1 0 0 0;stop 1;stop 6;stop 5;stop 9");
        is(0, "left", 0, 1, 0);
        is(1, "left", 0, 1, 1);
        for (int stop = 2; stop <= 3; stop++) {
            for (int what = 0; what <= 1; what++) stays(CANNOT_BE, "left", 0, stop, what);
        }
        says(24, "NONE without these.");
        busy();
        for (int stop : new int[] {0, 1, 4, -1, LEAST, MOST}) none("left", 0, stop, 0);
        for (int barge : new int[] {2, -1, LEAST, MOST}) none("left", barge, 2, 0);
        for (int what : new int[] {2, -1, LEAST, MOST}) none("left", 0, 2, what);
        for (int stop = 0; stop <= 4; stop++) none("left", 1, stop, 0);
    }

    private void lending() {
        says(TERMS, "LENDING of a BARGE from here to a STOP (this one or behind): at each STOP on the way READERS there who have none"
            + " are LENT one BOOK each, or none, by WISHES alone (that are told); she must PASS each next one (none is LEFT): the"
            + " most COINS;");
        river(ONE + "book 4 0 0 0;book 1 0 0 0;stop 1;stop 9;stop 9;stop 9;reader 0 0 9;reader 1 0 9;reader 2 0 9;wish 0 0 3;"
            + "wish 1 0 4;wish 2 0 5");
        for (int stop = 0; stop <= 2; stop++) is(3 + stop, "lending", 0, stop, 0);
        is(5, "lending", 0, 3, 0);
        told.call("sail", 0, ON);
        is(4, "lending", 0, 1, 0);
        is(5, "lending", 0, 2, 0);
        river(ONE + "book 4 0 0 0;stop 9;stop 9;stop 9;reader 0 0 9;reader 2 0 9;wish 0 0 7;wish 1 0 5");
        is(7, "lending", 0, 2, 0);
        told.call("sail", 0, ON);
        is(5, "lending", 0, 2, 0);
        is(0, "lending", 0, 1, 0);
        river(ONE + "book 4 0 0 0;book 1 0 0 0;stop 1;stop 9;stop 9;stop 9;reader 0 0 9;reader 1 0 9;reader 2 0 9;wish 0 0 3;"
            + "wish 1 0 4;wish 2 0 5");
        told.call("sail", 0, ON);
        told.call("sail", 0, ON);
        told.call("lend", 1, 2);
        told.call("sail", 0, BACK);
        is(4, "lending", 0, 2, 0);
        told.call("leave", 0);
        is(0, "lending", 0, 2, 0);
        // One BOOK each, and no BOOK to two.
        river(ONE + "book 4 0 0 0;book 4 0 0 0;stop 1;reader 0 0 9;wish 0 0 3;wish 0 1 9");
        is(9, "lending", 0, 0, 0);
        river(ONE + "book 4 0 0 0;stop 1;reader 0 0 9;reader 0 0 9;wish 0 0 3;wish 1 0 9");
        is(9, "lending", 0, 0, 0);
        river(ONE + times(6, "book 1 0 0 0;") + "stop 1" + times(6, ";reader 0 0 9")
            + ";wish 0 0 1;wish 1 1 2;wish 2 2 4;wish 3 3 8;wish 4 4 16;wish 5 5 32");
        is(63, "lending", 0, 0, 0);
        river(ONE + ONE + "book 4 0 1 0;stop 1;reader 0 0 9;wish 0 0 3");
        is(0, "lending", 0, 0, 0);
        is(3, "lending", 1, 0, 0);
        for (int depth = 1; depth <= 7; depth++) {
            river(ONE + "book 4 0 0 0;book 3 0 0 0;book 1 0 0 0;stop 9;stop " + depth + ";reader 0 0 1;reader 0 0 1;wish 0 0 1;"
                + "wish 0 1 9;wish 1 2 2");
            // Without book 1 and 2 she has 4, without 0 and 2 3, and it can't be less.
            is(depth < 3 ? CANNOT_BE : depth < 4 ? 3 : 11, "lending", 0, 1, 0);
        }
        // STONE 5, LEAN 3. Books 0 and 1 hold each other, DRAUGHT 4 + 0: without 0 TILT 9, 2 + 3; without 1 -7, 2 + 2.
        for (int depth = 1; depth <= 5; depth++) {
            river("barge 2 0 5 3;book 7 0 0 0;book 9 0 0 1;stop 9;stop " + depth + ";reader 0 0 1;wish 0 0 9;wish 0 1 5");
            is(depth < 4 ? CANNOT_BE : depth < 5 ? 5 : 9, "lending", 0, 1, 0);
        }
        // To the last of eight STOPS.
        river(ONE + "book 4 0 0 0" + times(7, ";stop 4") + ";stop 3;reader 7 0 1;wish 0 0 30");
        is(0, "lending", 0, 6, 0);
        is(CANNOT_BE, "lending", 0, 7, 0);
        is(30, "lending", 0, 7, 1);
        is(0, "left", 0, 6, 1);
        is(1, "left", 0, 7, 1);
        // Without book 0 or 1 she lies upright, and one of them is worth more.
        river("barge 2 0 99 1;book 6 0 0 0;book 6 0 0 0;book 6 0 0 1;stop 9;stop 1;reader 0 0 1;wish 0 0 5;wish 0 1 9");
        is(9, "lending", 0, 1, 0);
        // WISHES alone, and none is LEFT: a READER without one does not help.
        river(ONE + "book 4 0 0 0;stop 9;stop 3;reader 0 0 1");
        is(CANNOT_BE, "lending", 0, 1, 0);
        // What is LENT on the way is gone behind it, and no sooner.
        river(ONE + "book 4 0 0 0;book 2 0 0 0;stop 9;stop 6;stop 2;stop 2;reader 1 0 1;reader 3 0 1;wish 0 0 1;wish 1 0 9;"
            + "wish 1 1 5");
        is(1, "lending", 0, 2, 0);
        is(6, "lending", 0, 3, 0);
        river(ONE + "book 4 0 0 0;book 2 0 0 0;stop 9;stop 5;stop 2;reader 1 0 1;wish 0 0 1");
        is(CANNOT_BE, "lending", 0, 1, 0);
    }

    private void lendingRows() {
        says(TERMS, "what each READER is LENT then (of several ways the first, as a row by READERS: no BOOK ahead of BOOKS, these by"
            + " numbers).");
        river(ONE + "book 4 0 0 0;stop 9;reader 0 0 1;reader 0 0 1;reader 0 0 1;wish 0 0 3;wish 1 0 3;wish 2 0 3");
        is(NONE, "lending", 0, 0, 2);
        is(NONE, "lending", 0, 0, 3);
        is(0, "lending", 0, 0, 4);
        river(ONE + "book 4 0 0 0;book 4 0 0 0;book 4 0 0 0;stop 9;reader 0 0 1;reader 0 0 1;wish 0 1 3;wish 0 2 3;wish 1 2 5;"
            + "wish 1 1 5");
        is(1, "lending", 0, 0, 2);
        is(2, "lending", 0, 0, 3);
        // The same at the last of the READERS; and a row is told whole.
        river(ONE + "book 1 0 0 0;stop 1" + times(6, ";reader 0 0 9") + ";wish 4 0 3;wish 5 0 3;wish 3 0 3");
        for (int what = 2; what <= 6; what++) is(NONE, "lending", 0, 0, what);
        is(0, "lending", 0, 0, 7);
        river(ONE + "book 1 0 0 0;stop 1;reader 0 0 9;reader 0 0 9;wish 0 0 9;wish 1 0 3");
        is(0, "lending", 0, 0, 2);
        is(NONE, "lending", 0, 0, 3);
        river(ONE + times(12, "book 1 0 0 0;") + "stop 1" + times(6, ";reader 0 0 9") + ";wish 5 11 99");
        for (int what = 2; what <= 6; what++) is(NONE, "lending", 0, 0, what);
        is(11, "lending", 0, 0, 7);
        says(25, "LENDING to a STOP what 0: COINS, 1: INCH, 2 to 7: the BOOK that the READER of that number less 2 is LENT (NONE: none,"
            + " or no such READER);");
        river(ONE + "book 4 0 0 0;book 3 0 0 0;stop 9;stop 3;reader 0 0 1;reader 0 0 1;wish 1 0 1;wish 1 1 9");
        is(1, "lending", 0, 1, 0);
        is(8, "lending", 0, 1, 1);
        is(NONE, "lending", 0, 1, 2);
        is(0, "lending", 0, 1, 3);
        for (int what = 4; what <= 7; what++) is(NONE, "lending", 0, 1, what);
        says(25, "-2: it can't be (what 0, 2 to 7, such a READER or not);");
        river(ONE + "book 4 0 0 0;book 3 0 0 0;stop 9;stop 2;reader 0 0 1;reader 0 0 1;wish 1 0 1;wish 1 1 9");
        for (int what : new int[] {0, 2, 3, 4, 5, 6, 7}) stays(CANNOT_BE, "lending", 0, 1, what);
        stays(1, "lending", 0, 1, 1);
        says(25, "NONE without these.");
        busy();
        for (int stop : new int[] {0, 4, -1, LEAST, MOST}) none("lending", 0, stop, 0);
        for (int barge : new int[] {2, -1, LEAST, MOST}) none("lending", barge, 2, 0);
        for (int what : new int[] {8, -1, LEAST, MOST}) none("lending", 0, 2, what);
        none("lending", 1, 2, 0);
        is(0, "lending", 1, 3, 0);
    }

    private void inchAndDear() {
        says(TERMS, "INCH: how many COINS more it would be, if each DEPTH were 1 more.");
        for (int depth = 1; depth <= 5; depth++) {
            river(ONE + "book 4 0 0 0;book 3 0 0 0;stop 9;stop " + depth + ";stop 4;reader 0 0 1;wish 0 0 1;wish 0 1 9");
            is(depth == 2 ? 1 : depth == 3 ? 8 : 0, "lending", 0, 1, 1);
        }
        river("barge 1 996 1 1;book 4 0 0 0;stop 999;stop 999;reader 1 0 1;wish 0 0 50");
        is(CANNOT_BE, "lending", 0, 1, 0);
        is(50, "lending", 0, 1, 1);
        says(TERMS, "DEAR of a READER: how many less, if he were none.");
        String river = ONE + "book 4 0 0 0;book 4 0 0 0;stop 1;stop 3;reader 1 0 1;reader 0 0 1;reader 0 0 1;wish 0 0 9;wish 1 0 5;"
            + "wish 1 1 5;wish 2 1 4;wish 2 0 4";
        river(river);
        is(0, "dear", 0, 0, 0);
        is(5, "dear", 0, 0, 1);
        is(4, "dear", 0, 0, 2);
        is(0, "dear", 0, 1, 0);
        river(ONE + "book 4 0 0 0;stop 1;reader 0 0 1;reader 0 0 1;wish 0 0 9;wish 1 0 7");
        is(2, "dear", 0, 0, 0);
        is(0, "dear", 0, 0, 1);
        says(TERMS, "(By what can't be: as if 0.)");
        river(river);
        is(9, "lending", 0, 1, 0);
        is(9, "dear", 0, 1, 1);
        is(9, "dear", 0, 1, 2);
        river(ONE + "book 4 0 0 0;stop 9;stop 3;reader 1 0 1;wish 0 0 30");
        is(CANNOT_BE, "lending", 0, 1, 0);
        is(30, "lending", 0, 1, 1);
        is(0, "dear", 0, 1, 0);
        river(ONE + "book 4 0 0 0;stop 9;stop 2;reader 1 0 1;wish 0 0 30");
        is(0, "lending", 0, 1, 1);
        says(26, "DEAR of a READER for LENDING to a STOP;");
        busy();
        stays(5, "dear", 0, 1, 1);
        stays(0, "dear", 0, 1, 0);
        stays(0, "dear", 0, 1, 2);
        stays(0, "dear", 0, 3, 1);
        says(26, "NONE without these.");
        for (int stop : new int[] {0, 4, -1, LEAST, MOST}) none("dear", 0, stop, 1);
        for (int barge : new int[] {2, -1, LEAST, MOST}) none("dear", barge, 2, 1);
        for (int reader : new int[] {3, -1, LEAST, MOST}) none("dear", 0, 2, reader);
        none("dear", 1, 2, 1);
    }

    private void room() {
        says(TERMS, "ROOM of a BARGE on a SHELF: the greatest WEIGHT (0 to 999) of a BOOK that could be put there more so that she PASSES"
            + " the next STOP.");
        int[][] due = {{0, 1, 999, 999}, {1, 1, 999, 998}, {0, 1, 998, 998}, {998, 1, 999, 1}, {999, 1, 999, 0}, {0, 2, 500, 999},
            {0, 2, 499, 998}, {9999, 99, 101, 0}, {9998, 99, 101, 1}};
        for (int[] one : due) {
            river("barge 1 " + one[0] + " " + one[1] + " 1;stop 1;stop " + one[2]);
            is(one[3], "room", 0, 0);
        }
        // ceil((20 + w) / 4) + |w - 20| / 5: 9 at first, 10 for 5, 9 and 13 to 15, 9 again for 16, 10 for 17.
        river("barge 2 0 4 5;book 20 0 0 0;stop 1;stop 9");
        is(16, "room", 0, 1);
        is(0, "room", 0, 0);
        says(27, "ROOM;");
        busy();
        stays(31, "room", 0, 0);
        says(27, "-2: she does not PASS it as she lies, or there is no next STOP;");
        for (int shelf = 0; shelf < 2; shelf++) stays(CANNOT_BE, "room", 1, shelf);
        river("barge 1 6 1 1;stop 9;stop 5");
        stays(CANNOT_BE, "room", 0, 0);
        river("barge 1 6 1 1;stop 9;stop 6");
        is(0, "room", 0, 0);
        // A book on SHELF 1 would right her, but she does not PASS as she lies.
        river("barge 2 0 99 1;book 5 0 0 0;stop 9;stop 5");
        stays(CANNOT_BE, "room", 0, 1);
        says(27, "NONE without these.");
        busy();
        for (int barge : new int[] {2, -1, LEAST, MOST}) none("room", barge, 0);
        for (int shelf : new int[] {3, -1, LEAST, MOST}) none("room", 0, shelf);
        none("room", 1, 2);
    }

    private void toTheMiddle(String river) {
        river(river);
        told.call("sail", 0, ON);
        told.call("sail", 1, BACK);
    }

    private void meeting() {
        says(TERMS, "MEETING, if both BARGES are AT one STOP: the fewest BOOKS to be HANDED over (each way, to the SHELF of the same number,"
            + " or the last) so that BARGE 0 PASSES the next STOP, BARGE 1 the one ahead (where there is one): of several the least as"
            + " bits.");
        river("barge 1 50 1 1;barge 1 50 1 1;book 5 0 0 0;stop 1");
        is(0, "meeting");
        String two = "barge 1 0 1 1;barge 1 0 1 1;book 5 0 0 0;book 3 0 0 0;book 4 0 1 0;";
        // At the first STOP BARGE 1 has none ahead, at the last BARGE 0 has none to come.
        river(two + "stop 4;stop 7");
        told.call("sail", 1, BACK);
        is(1, "meeting");
        river(two + "stop 3;stop 9");
        told.call("sail", 0, ON);
        is(4, "meeting");
        // BARGE 1 may have, BARGE 0 may have, the set. HANDED over: none 4, 8; 0 9, 3; 1 7, 5; 2 0, 12; 0 and 1 12, 0;
        // 0 and 2 5, 7; 1 and 2 3, 9; all 8, 4.
        int[][] due = {{4, 8, 0}, {3, 8, CANNOT_BE}, {3, 9, 6}, {3, 12, 4}, {4, 7, CANNOT_BE}, {7, 7, 2}, {6, 7, 5}, {5, 7, 5},
            {7, 5, 2}, {7, 4, CANNOT_BE}, {8, 4, 7}, {9, 4, 1}, {8, 3, CANNOT_BE}, {12, 1, 3}, {11, 1, CANNOT_BE}};
        for (int[] one : due) {
            toTheMiddle(two + "stop " + one[0] + ";stop 9;stop " + one[1]);
            is(one[2], "meeting");
        }
        toTheMiddle(ONE + ONE + times(3, "book 2 0 0 0;") + "stop 9;stop 9;stop 4");
        is(1, "meeting");
        // One rather than two of lesser bits.
        toTheMiddle(ONE + ONE + "book 2 0 0 0;book 2 0 0 0;book 4 0 0 0;stop 9;stop 9;stop 4");
        is(4, "meeting");
        toTheMiddle(ONE + ONE + times(12, "book 1 0 0 0;") + "stop 12;stop 12;stop 1");
        is(2047, "meeting");
        toTheMiddle("barge 1 1 1 1;" + ONE + times(12, "book 1 0 0 0;") + "stop 13;stop 13;stop 1");
        is(4095, "meeting");
        // What is LEFT there can't be HANDED over.
        toTheMiddle("barge 1 4 1 1;" + ONE + "book 4 0 0 0;stop 9;stop 9;stop 3");
        told.call("leave", 0);
        is(CANNOT_BE, "meeting");
    }

    private void meetingShelves() {
        // Book 0 comes from SHELF 3 to SHELF 1, the last there: TILT 4, 2 INCHES more.
        toTheMiddle("barge 4 0 1 99;barge 2 0 1 2;book 4 0 0 3;stop 6;stop 9;stop 3");
        is(1, "meeting");
        toTheMiddle("barge 4 0 1 99;barge 2 0 1 2;book 4 0 0 3;stop 5;stop 9;stop 3");
        is(CANNOT_BE, "meeting");
        // To the SHELF of the same number, 1, which is the middle of three there.
        toTheMiddle("barge 2 0 1 99;barge 3 0 1 1;book 4 0 0 1;stop 4;stop 9;stop 3");
        is(1, "meeting");
        // BARGE 1 hands book 0 to SHELF 0 of BARGE 0, TILT -4.
        toTheMiddle("barge 2 0 1 4;barge 1 0 1 1;book 4 0 1 0;stop 3;stop 9;stop 5");
        is(1, "meeting");
        toTheMiddle("barge 2 0 1 4;barge 1 0 1 1;book 4 0 1 0;stop 3;stop 9;stop 4");
        is(CANNOT_BE, "meeting");
        // STONE 5 and 3: LOAD 12 and 4, 3 and 2 INCHES; with book 0 over 6 and 10, 2 and 4.
        toTheMiddle("barge 1 0 5 1;barge 1 0 3 1;book 6 0 0 0;book 6 0 0 0;book 4 0 1 0;stop 4;stop 9;stop 2");
        is(1, "meeting");
        toTheMiddle("barge 1 0 5 1;barge 1 0 3 1;book 6 0 0 0;book 6 0 0 0;book 4 0 1 0;stop 3;stop 9;stop 2");
        is(5, "meeting");
        toTheMiddle("barge 1 0 5 1;barge 1 0 3 1;book 6 0 0 0;book 6 0 0 0;book 4 0 1 0;stop 1;stop 9;stop 2");
        is(CANNOT_BE, "meeting");
        tilts();
        says(28, "MEETING: the set;");
        met();
        stays(0, "meeting");
        toTheMiddle(ONE + ONE + "book 2 0 0 0;book 2 0 1 0;book 3 0 0 0;stop 9;stop 9;stop 2");
        stays(4, "meeting");
        says(28, "-2: it can't be;");
        // Asked again, when the book that could be HANDED over is LEFT.
        toTheMiddle("barge 1 3 1 1;" + ONE + "book 4 0 0 0;stop 9;stop 9;stop 6 2");
        is(1, "meeting");
        nights(90);
        stays(CANNOT_BE, "meeting");
        toTheMiddle("barge 1 4 1 1;" + ONE + "book 4 0 1 0;stop 9;stop 9;stop 3");
        stays(CANNOT_BE, "meeting");
        says(28, "NONE without these (not two BARGES, or not AT one STOP).");
        fresh();
        none("meeting");
        river(ONE + "stop 9");
        none("meeting");
        river(ONE + ONE + "stop 9;stop 9");
        none("meeting");
        told.call("sail", 0, ON);
        is(0, "meeting");
        told.call("sail", 1, BACK);
        none("meeting");
    }

    /** LEAN 1, and books that hold each other: which is HANDED over hangs on the TILT of both. */
    private void tilts() {
        String river = "barge 4 0 9 1;barge 2 0 9 1;book 2 0 0 3;book 3 0 0 1;book 5 0 1 0;stop A;stop 20;stop B";
        // DRAUGHT of BARGE 1 and of BARGE 0, HANDED over: none 6, 4; 0 4, 4; 1 3, 7; 2 0, 14; 0 and 1 2, 0; 0 and 2 3, 19;
        // 1 and 2 4, 10; all 6, 16.
        int[][] due = {{6, 4, 0}, {5, 4, 1}, {4, 4, 1}, {4, 3, 3}, {3, 7, 2}, {3, 6, 3}, {2, 1, 3}, {1, 14, 4}, {1, 13, CANNOT_BE}};
        for (int[] one : due) {
            toTheMiddle(river.replace("A", "" + one[0]).replace("B", "" + one[1]));
            is(one[2], "meeting");
        }
    }

    private void aboard() {
        says(TERMS, "ABOARD for a told DRAUGHT (and TILT, or any): sets of all BOOKS that are not gone, nor ABOARD the other BARGE, that could"
            + " be ABOARD one (on the SHELVES they stand or stood on last; or her last; DAMP and WATER as they are): how many; which of"
            + " these BOOKS are in all, in none.");
        river(ONE + times(12, "book 1 0 0 0;") + "stop 99");
        int[] sets = {1, 12, 66, 220, 495, 792, 924, 792, 495, 220, 66, 12, 1, 0};
        for (int draught = 0; draught < sets.length; draught++) {
            is(sets[draught], "aboard", 0, draught, FAR_OFF, 0);
            is(draught == 12 ? 4095 : 0, "aboard", 0, draught, FAR_OFF, 1);
            is(draught == 0 ? 4095 : 0, "aboard", 0, draught, FAR_OFF, 2);
        }
        // BARGE 0 with WATER 2: book 0 (weight 4 with DAMP) ABOARD her, 1 (2) LEFT, 2 (8) with a READER, 3 gone, 4 not hers.
        river("barge 2 0 1 99;barge 4 0 1 99;book 3 0 0 0;book 2 0 1 3;book 8 0 0 1;book 9 0 0 0;book 16 0 1 0;stop 99;reader 0 0 1;"
            + "hole 0 1;hole 0 1;hole 0 9");
        told.call("plug", 2, 3);
        told.call("leave", 1);
        told.call("lend", 2, 0);
        told.call("rain");
        told.call("night");
        int[][] due = {{2, 0}, {6, 1}, {4, 2}, {8, 3}, {10, 4}, {14, 5}, {12, 6}, {16, 7}};
        for (int[] one : due) {
            is(1, "aboard", 0, one[0], FAR_OFF, 0);
            is(one[1], "aboard", 0, one[0], FAR_OFF, 1);
            is(7 - one[1], "aboard", 0, one[0], FAR_OFF, 2);
        }
        for (int draught : new int[] {0, 1, 3, 5, 7, 11, 17, 18, 32}) is(0, "aboard", 0, draught, FAR_OFF, 0);
        // Of BARGE 1: book 0 is not hers, 1 (2) and 2 (8) could be, 4 (17 with DAMP).
        is(0, "aboard", 1, 0, FAR_OFF, 1);
        is(22, "aboard", 1, 0, FAR_OFF, 2);
        is(18, "aboard", 1, 19, FAR_OFF, 1);
        is(4, "aboard", 1, 19, FAR_OFF, 2);
        is(22, "aboard", 1, 27, FAR_OFF, 1);
        // Book 1 stood on SHELF 3: her last is 1, the ARM 1.
        is(1, "aboard", 0, 4, 2, 0);
        is(1, "aboard", 0, 8, -2, 0);
        is(1, "aboard", 0, 10, 8, 0);
        is(0, "aboard", 0, 10, -8, 0);
        is(1, "aboard", 0, 16, 6, 0);
        // Asked again, when it is gone.
        river(ONE + "book 3 0 0 0;stop 9;hole 0 3");
        is(1, "aboard", 0, 3, FAR_OFF, 0);
        told.call("plug", 0, 0);
        is(0, "aboard", 0, 3, FAR_OFF, 0);
        is(0, "aboard", 0, 0, FAR_OFF, 2);
        river("barge 2 0 1 99;barge 4 0 1 99;book 3 0 0 0;book 2 0 0 1;book 8 0 0 1;stop 9");
        told.call("rain");
        says(29, "ABOARD for a DRAUGHT (0 to 9999) and a TILT (-1000000: any) what 0: how many, 1: in all, 2: in none, as bits (0 both without"
            + " a set);");
        for (int what = 0; what <= 2; what++) {
            stays(0, "aboard", 0, 18, FAR_OFF, what);
            stays(0, "aboard", 0, 16, 7, what);
            stays(0, "aboard", 0, 16, FAR_OFF + 1, what);
            stays(0, "aboard", 0, 16, FAR_OFF - 1, what);
            stays(0, "aboard", 0, 16, LEAST, what);
            stays(0, "aboard", 0, 16, MOST, what);
        }
        river("barge 1 9999 1 1;book 1 0 0 0;stop 9");
        stays(1, "aboard", 0, 9999, FAR_OFF, 0);
        stays(1, "aboard", 0, 9999, FAR_OFF, 2);
        stays(0, "aboard", 0, 0, FAR_OFF, 0);
        river(ONE + "stop 9");
        stays(1, "aboard", 0, 0, FAR_OFF, 0);
        stays(1, "aboard", 0, 0, 0, 0);
        says(29, "NONE without these.");
        river("barge 1 9999 1 1;book 1 0 0 0;stop 9");
        for (int draught : new int[] {10000, -1, LEAST, MOST}) none("aboard", 0, draught, FAR_OFF, 0);
        for (int barge : new int[] {1, -1, LEAST, MOST}) none("aboard", barge, 9999, FAR_OFF, 0);
        for (int what : new int[] {3, -1, LEAST, MOST}) none("aboard", 0, 9999, FAR_OFF, what);
    }

    private void plugs() {
        says(TERMS, "PLUGS: for all HOLES of a BARGE that are not STOPPED unlike BOOKS ABOARD her that could STOP them, of least WORTH"
            + " together; of several the first (the least BOOK for the first HOLE, and so on).");
        river(ONE + ONE + "book 9 5 0 0;book 7 4 0 0;book 7 4 0 0;book 9 0 1 0;book 9 0 0 0;stop 9;hole 0 7;hole 1 9;hole 0 8");
        told.call("leave", 4);
        is(9, "plugs", 0, 0);
        is(1, "plugs", 0, 1);
        is(NONE, "plugs", 0, 2);
        is(0, "plugs", 0, 3);
        is(NONE, "plugs", 0, 4);
        is(0, "plugs", 1, 0);
        is(3, "plugs", 1, 2);
        told.call("plug", 2, 0);
        is(4, "plugs", 0, 0);
        is(1, "plugs", 0, 1);
        is(NONE, "plugs", 0, 3);
        told.call("plug", 0, 1);
        is(0, "plugs", 0, 0);
        is(NONE, "plugs", 0, 1);
        // Asked again, when the cheapest is LEFT.
        river(ONE + "book 9 1 0 0;book 9 2 0 0;stop 9;hole 0 9");
        is(0, "plugs", 0, 1);
        told.call("leave", 0);
        is(2, "plugs", 0, 0);
        is(1, "plugs", 0, 1);
        told.call("leave", 1);
        is(CANNOT_BE, "plugs", 0, 1);
        // The WEIGHT counts without DAMP, and it must be the WATER at least.
        river(ONE + "book 4 0 0 0;book 5 9 0 0;stop 9;hole 0 5");
        told.call("rain");
        is(9, "plugs", 0, 0);
        is(1, "plugs", 0, 1);
        river(ONE + times(12, "book 9 5 0 0;") + "stop 9" + times(4, ";hole 0 9"));
        is(20, "plugs", 0, 0);
        for (int hole = 0; hole < 4; hole++) is(hole, "plugs", 0, hole + 1);
        // Two ways of one WORTH: the first HOLE has the least BOOK.
        river(ONE + "book 9 3 0 0;book 5 3 0 0;book 9 3 0 0;stop 9;hole 0 5;hole 0 9");
        is(6, "plugs", 0, 0);
        is(0, "plugs", 0, 1);
        is(2, "plugs", 0, 2);
        says(30, "PLUGS what 0: WORTH, 1 to 4: the BOOK for that HOLE (NONE: none is needed, or no such HOLE);");
        busy();
        stays(5, "plugs", 0, 0);
        stays(0, "plugs", 0, 1);
        for (int what = 2; what <= 4; what++) stays(NONE, "plugs", 0, what);
        stays(2, "plugs", 1, 0);
        stays(3, "plugs", 1, 3);
        river(ONE + "stop 9");
        is(0, "plugs", 0, 0);
        is(NONE, "plugs", 0, 1);
        says(30, "-2: it can't be (all of these, such a HOLE or not);");
        river(ONE + "book 8 5 0 0;stop 9;hole 0 8;hole 0 8");
        for (int what = 0; what <= 4; what++) stays(CANNOT_BE, "plugs", 0, what);
        river(ONE + "book 8 5 0 0;stop 9;hole 0 9");
        for (int what = 0; what <= 4; what++) stays(CANNOT_BE, "plugs", 0, what);
        says(30, "NONE without these.");
        busy();
        for (int barge : new int[] {2, -1, LEAST, MOST}) none("plugs", barge, 0);
        for (int what : new int[] {5, -1, LEAST, MOST}) none("plugs", 0, what);
    }

    private void seed() {
        says(31, "x becomes a number: what it was;");
        fresh();
        is(0, "seed", 5);
        is(5, "seed", MOST);
        is(MOST, "count", 12);
        is(MOST, "seed", 0);
        is(0, "seed", 1);
        says(31, "NONE, and nothing happens, below 0.");
        none("seed", -1);
        none("seed", LEAST);
        is(1, "count", 12);
        busy();
        none("seed", -1);
        is(77, "count", 12);
    }

    /** One VOYAGE or more of one STOP: how often the BOOK of WEIGHT 1 had to be LEFT, as it does by RAIN. */
    private void rains(int want, int x, int m, int n, int p) {
        river("barge 1 0 1 99;book 1 0 0 0;stop 9;stop 1", "lend 1");
        told.call("seed", x);
        is(want, "voyages", 0, 0, m, n, p, 2);
    }

    private void draws() {
        says(TERMS, "DRAWS: x (0 to 2147483647; 0 at first) becomes x * 1103515245 + 12345, of 2147483648 the rest; a DRAW is x / 65536.");
        river("barge 1 0 1 99;book 1 0 0 0;stop 9;stop 1", "lend 1");
        is(0, "count", 12);
        is(0, "voyages", 0, 0, 1, 1, 0, 2);
        is(1, "voyages", 0, 0, 1, 1, 1, 2);
        // The first DRAW: of 1 16838, of 2147483647 15929, of 1406932606 9988, of 194 22599, of 58 26349, of 3 17747 (by 65537
        // it would be 17746), of 5 18655 (by 65535 18656).
        int[][] due = {{0, 0}, {1, 38}, {2147483647, 29}, {1406932606, 88}, {194, 99}, {58, 49}, {3, 47}, {5, 55}};
        for (int[] one : due) {
            rains(0, one[0], 1, 1, one[1]);
            rains(1, one[0], 1, 1, one[1] + 1);
        }
    }

    private void voyages() {
        says(TERMS, "VOYAGES m times (1 to 20) of a BARGE, n STOPS (1 to 8) by a RULE from now on; ahead of each STOP: a NIGHT; RAIN, if a DRAW"
            + " mod 100 is below p (0 to 100);");
        river("barge 1 0 1 99;book 9 0 0 0;stop 9;stop 1", "lend 1");
        for (int m : new int[] {1, 2, 19, 20}) {
            is(m, "voyages", 0, 0, m, 1, 0, 0);
            is(m, "voyages", 0, 0, m, 1, 0, 2);
        }
        river(ONE + "book 1 0 0 0" + times(8, ";stop 9"), "lend 1");
        int[] there = {0, 0, 0, 0, 0, 0, 0, 5, 5};
        for (int n = 1; n <= 8; n++) is(there[n], "voyages", 0, 0, 5, n, 100, 0);
        told.call("sail", 0, ON);
        is(5, "voyages", 0, 0, 5, 6, 0, 0);
        is(0, "voyages", 0, 0, 5, 5, 0, 0);
        // The NIGHT lets WATER in and makes the DAY 90.
        river("barge 1 0 1 99;book 1 0 0 0;stop 9;stop 1;hole 0 1", "lend 1");
        is(1, "voyages", 0, 0, 1, 1, 0, 2);
        river("barge 1 0 1 99;book 5 0 0 0;stop 9;stop 9 4", "lend 1");
        nights(88);
        is(0, "voyages", 0, 0, 1, 1, 100, 2);
        nights(1);
        is(1, "voyages", 0, 0, 1, 1, 100, 2);
        // By p 100 it always rains, by 0 never; 20 times.
        rains(20, 4711, 20, 1, 100);
        rains(0, 4711, 20, 1, 0);
        // 2 STOPS: RAIN twice, DAMP 2.
        river("barge 1 0 1 99;book 1 0 0 0;stop 9;stop 2;stop 3", "lend 1");
        is(0, "voyages", 0, 0, 1, 2, 100, 2);
        river("barge 1 0 1 99;book 1 0 0 0;stop 9;stop 2;stop 2", "lend 1");
        is(1, "voyages", 0, 0, 1, 2, 100, 2);
        // DAMP 9 at most.
        river("barge 1 0 1 99;book 1 0 0 0;stop 9;stop 10;stop 9", "lend 1");
        for (int i = 0; i < 9; i++) told.call("rain");
        is(0, "voyages", 0, 0, 1, 1, 100, 2);
        is(1, "voyages", 0, 0, 1, 2, 100, 2);
        mice();
    }

    private void gnawed(int left, String river, int x) {
        river(river, "lend 1");
        told.call("seed", x);
        is(left, "voyages", 0, 0, 1, 1, 0, 2);
    }

    private void mice() {
        says(TERMS, "MICE: of the BOOK that is a DRAW mod BOOKS (if it is ABOARD her and its WEIGHT above 1) the WEIGHT is 1 less (for this"
            + " VOYAGE);");
        gnawed(0, "barge 1 0 1 99;book 2 0 0 0;stop 9;stop 1", 0);
        gnawed(1, "barge 1 0 1 99;book 3 0 0 0;stop 9;stop 1", 0);
        gnawed(1, "barge 1 1 1 99;book 1 0 0 0;stop 9;stop 1", 0);
        // WEIGHT without DAMP: 1 and DAMP 1.
        river("barge 1 0 1 99;book 1 0 0 0;stop 9;stop 1", "lend 1");
        told.call("rain");
        is(1, "voyages", 0, 0, 1, 1, 0, 2);
        // The second DRAW of 1 is 5758, of three BOOKS 1: it is the lightest then, and the one that is wished for.
        for (int book = 0; book < 3; book++) {
            river("barge 1 0 1 99;book 5 0 0 0;book 5 0 0 0;book 5 0 0 0;stop 99;stop 13;reader 0 0 1;wish 0 " + book + " 1",
                "lend weight");
            told.call("seed", 1);
            is(book == 1 ? 1 : 0, "voyages", 0, 0, 1, 1, 0, 1);
            is(book == 1 ? 0 : 1, "voyages", 0, 0, 1, 1, 0, 2);
        }
        // A BOOK that is LEFT is not gnawed: it would be fetched.
        river("barge 1 0 1 99;book 6 0 0 0;stop 9;stop 4", "fetch weight<6;lend 1");
        told.call("leave", 0);
        is(0, "voyages", 0, 0, 1, 1, 0, 2);
        // Twice 3 less 1, not 3 less 2 the second time.
        river("barge 1 0 1 99;book 3 0 0 0;stop 9;stop 1", "lend 1");
        is(2, "voyages", 0, 0, 2, 1, 0, 2);
        is(3, "book", 0, 0);
        says(TERMS, "(Without BOOKS: no DRAW for MICE.)");
        river(ONE + "stop 9;stop 9", "lend 1");
        stays(20, "voyages", 0, 0, 20, 8, 100, 0);
        stays(0, "voyages", 0, 0, 20, 8, 100, 2);
    }

    private void voyagesEnd() {
        says(TERMS, "then one STOP by the rule (if that is the end of all, the VOYAGE is over, without more DRAWS): how often she is at the last"
            + " STOP then, BOOKS LENT, LEFT in these, together (nothing stays; x as it was).");
        // DRAWS of 7, mod 100: 64 6 68 74 31 65 34 90. DRAWS go on: the third VOYAGE of one STOP has the fifth.
        rains(0, 7, 1, 1, 50);
        rains(0, 7, 2, 1, 50);
        rains(1, 7, 3, 1, 50);
        rains(2, 7, 4, 1, 50);
        // At the last STOP a VOYAGE of more STOPS draws twice once more, then it is over.
        rains(0, 7, 1, 2, 50);
        rains(1, 7, 2, 2, 50);
        rains(1, 7, 2, 8, 50);
        // She never comes on: 10 are too deep, no BOOK is left for it.
        river("barge 1 10 1 99;book 1 0 0 0;stop 99;stop 9;stop 99", "lend 1");
        is(0, "voyages", 0, 0, 20, 8, 0, 0);
        is(20, "voyages", 0, 0, 20, 8, 0, 2);
        is(0, "voyages", 0, 0, 20, 8, 0, 1);
        river(ONE + ONE + "stop 9;stop 9", "lend 1");
        is(20, "voyages", 0, 1, 20, 1, 0, 0);
        // LENT at the first STOP, LEFT at the second.
        river("barge 1 0 1 99;book 9 0 0 0;book 9 1 0 0;stop 99;stop 16;stop 5;stop 5;reader 0 0 1;wish 0 0 5", "lend worth");
        is(0, "voyages", 0, 0, 3, 2, 0, 0);
        is(3, "voyages", 0, 0, 3, 3, 0, 0);
        is(3, "voyages", 0, 0, 3, 1, 0, 1);
        is(0, "voyages", 0, 0, 3, 1, 0, 2);
        stays(3, "voyages", 0, 0, 3, 3, 0, 1);
        stays(3, "voyages", 0, 0, 3, 3, 0, 2);
        is(0, "lies", 0, 5);
        says(32, "VOYAGES what 0: how often, 1: LENT, 2: LEFT.");
        river("barge 1 0 1 99" + times(5, ";book 9 0 0 0") + ";stop 99;stop 1;reader 0 0 1;reader 0 0 1;wish 0 0 5;wish 1 1 5",
            "lend 1");
        for (int what = 0; what <= 2; what++) stays(2 * (what + 1), "voyages", 0, 0, 2, 1, 0, what);
        says(32, "NONE without these.");
        busy();
        for (int rule : new int[] {2, -1, LEAST, MOST}) none("voyages", rule, 0, 1, 1, 0, 0);
        for (int barge : new int[] {2, -1, LEAST, MOST}) none("voyages", 0, barge, 1, 1, 0, 0);
        for (int m : new int[] {0, 21, -1, LEAST, MOST}) none("voyages", 0, 0, m, 1, 0, 0);
        for (int n : new int[] {0, 9, -1, LEAST, MOST}) none("voyages", 0, 0, 1, n, 0, 0);
        for (int p : new int[] {101, -1, LEAST, MOST}) none("voyages", 0, 0, 1, 1, p, 0);
        for (int what : new int[] {3, -1, LEAST, MOST}) none("voyages", 0, 0, 1, 1, 0, what);
    }

    private void count() {
        says(33, "What 0: BARGES, 1: BOOKS, 2: STOPS, 3: READERS, 4: HOLES, 5: RULES, 6: the DAY, 7: BOOKS ABOARD, 8: LEFT, 9: with"
            + " READERS, 10: gone, 11: ACTS that can be UNDONE, 12: x, 13: bytes of the TAPE.");
        busy();
        int[] due = {2, 8, 4, 3, 3, 2, 1, 4, 2, 1, 1, 7, 77, 15};
        for (int what = 0; what <= 13; what++) stays(due[what], "count", what);
        says(33, "NONE for others.");
        for (int what : new int[] {14, -1, LEAST, MOST}) none("count", what);
        says(TERMS, "The constants: `NONE = -1`: None.");
        isTold("NONE", BookBarge.NONE, -1);
    }

    private void images() {
        says(34, "An IMAGE is made: the DAY;");
        busy();
        for (int k = 0; k <= 3; k++) is(1, "image", k);
        is(7, "count", 11);
        fresh();
        for (int k = 0; k <= 3; k++) is(0, "image", k);
        says(34, "NONE without it.");
        busy();
        for (int k : new int[] {4, -1, LEAST, MOST}) none("image", k);
        fresh();
        for (int k : new int[] {4, -1, LEAST, MOST}) none("image", k);
        says(TERMS, "IMAGES 0 to 3: all but the TAPE and the RULES, as it is; gone back to, it is as it was (these stay; nothing can be UNDONE"
            + " then).");
        busy();
        told.call("image", 3);
        for (int book : new int[] {0, 1, 3, 7}) told.call("leave", book);
        told.call("sail", 0, ON);
        nights(4);
        told.call("sail", 0, BACK);
        told.call("fetch", 5, 0, 2);
        told.call("seed", 5);
        told.call("image", 1);
        isTold("a third rule", told.rule("lend 3"), 2);
        isTold("another river", told.river("barge 8 0 1 1;stop 7;stop 6"), 0);
        told.tape("barge 8");
        is(1, "back", 3);
        int[] due = {2, 8, 4, 3, 3, 3, 1, 4, 2, 1, 1, 0, 77, 7};
        for (int what = 0; what <= 13; what++) is(due[what], "count", what);
        none("undo");
        is(36, "lies", 0, 0);
        is(-4, "lies", 0, 1);
        is(1, "lies", 0, 4);
        is(5, "lies", 0, 3);
        is(200, "book", 5, 4);
        is(5, "book", 5, 6);
        is(0, "book", 5, 3);
        is(5, "reader", 0, 3);
        is(1, "hole", 1, 2);
        is(30, "stop", 0, 0);
        is(20, "wish", 0, 1);
        is(5, "back", 1);
        is(5, "count", 12);
        is(100, "book", 5, 4);
        is(2, "book", 5, 3);
        is(6, "night");
        is(5, "back", 1);
        is(5, "count", 6);
        is(5, "image", 3);
        is(5, "back", 3);
        is(100, "book", 5, 4);
        says(35, "All is as in an IMAGE: the DAY;");
        busy();
        is(7, "count", 11);
        is(0, "back", 0);
        is(0, "count", 11);
        none("undo");
        is(0, "count", 6);
        is(0, "lies", 0, 4);
        is(1, "back", 2);
        is(1, "count", 6);
        is(101, "book", 6, 4);
        says(35, "NONE, and nothing happens, if it was never made, or without it.");
        busy();
        for (int k : new int[] {1, 3, 4, -1, LEAST, MOST}) none("back", k);
        fresh();
        for (int k : new int[] {0, 1, 2, 3, 4, -1}) none("back", k);
    }
}
