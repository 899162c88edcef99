/** An EXIT, TOUCHED by each guest, FOLDED AHEAD, GIVEN, JOINED, PARTED: the edges that their sentences name. */
public final class TouchEdgesTest {
    private TouchEdgesTest() {
    }

    public static void main(String[] args) {
        exitOfNobody();
        exitDealt();
        exitLeadsToHandler();
        byRights();
        trapsWithoutEntry();
        trapsAlone();
        trapsThatAreWanted();
        doneWhereFolded();
        dealtByReason1();
        seenByReason2();
        givenOnTouch();
        refusedByTable2();
        roomOthers();
        outerWithoutEntry();
        outerWithoutRight();
        outerDone();
        outerWritesCopy();
        foldedAheadNone();
        foldedAheadByRoom();
        foldedAheadLazyOnes();
        givenTheLowest();
        givenAllRights();
        swappedAtTen();
        swappedLeadsNowhere();
        swappedWithSharedFrames();
        givenWhatIsStored();
        joinedNone();
        joinedOnlyLedTo();
        joinedTheLowest();
        joinedKeepsAge();
        joinedUnfolds();
        copiedTillTold();
        copiedTillGiven();
        copiedGivesNoWrite();
        partedAlone();
        partedFromOthers();
        partedWithoutAFreeFrame();
        partedByInner();
        changedByWrite();
        Due.end();
    }

    /** "An EXIT: .. who saw it (0, 1), a REASON, a DETAIL are written down." */
    private static void exitOfNobody() {
        GuestLevels x = Made.entered();
        x.event(3);
        x.touch(4, 0, 0);
        Due.is("45 none without somebody to see it", x.exit(-1, 0), 0);
        Due.is("27 none is COUNTED", x.is(5) + x.is(6), 0);
        x.want(0, 8);
        x.event(3);
        Due.is("45 the host", x.exit(0, 0), 0);
        Made.leave(x);
        Due.is("45 the outer guest", x.exit(1, 0), 1);
        Due.is("45 REASON of the first", x.exit(0, 1), 4);
        Due.is("45 DETAIL of the first", x.exit(0, 2), 3);
        Due.is("45 REASON of the second", x.exit(1, 1), 6);
        Due.is("45 DETAIL of the second", x.exit(1, 2), 15);
    }

    /** "Is it dealt to the outer guest, LEVEL is 1 then" */
    private static void exitDealt() {
        GuestLevels x = Made.entered();
        x.want(0, 1);
        x.event(0);
        Due.is("27 seen by the host: LEVEL stays", x.is(0), 2);
        Due.is("27 REASON of one dealt: none yet", x.is(15), -1);
        Due.is("27 DETAIL of one dealt: none yet", x.is(16), -1);
        x.entry(0, 0, 0, 7);
        x.touch(0, 0, 0);
        Due.is("27 dealt: LEVEL", x.is(0), 1);
        Due.is("27 its REASON", x.is(15), 1);
        Due.is("27 its DETAIL", x.is(16), 0);
        x.event(0);
        Due.is("27 REASON of the latest one dealt", x.is(15), 1);
    }

    /** "has its REASON a HANDLER, and PROGRAM (1) so many ACTS that it has that PLACE, that is its PLACE then" */
    private static void exitLeadsToHandler() {
        for (int acts = 0; acts <= 24; acts += acts == 3 ? 20 : 1) {
            for (int place : new int[] {-1, 0, 1, 2, 3, 22, 23}) {
                GuestLevels x = new GuestLevels();
                for (int i = 0; i < acts; i++) x.act(1, 4, 0, 0);
                x.run(1);
                x.open(1, false);
                x.handler(4, place);
                x.want(1, 1);
                x.enter();
                x.event(0);
                int ahead = acts > 1 ? 1 : 0;
                boolean leads = place >= 0 && place < acts;
                Due.is("19 HANDLER " + place + " of " + acts + " ACTS", x.is(11), leads ? place : ahead);
            }
        }
        GuestLevels y = new GuestLevels();
        for (int i = 0; i < 9; i++) y.act(1, 4, 0, 0);
        for (int reason : new int[] {1, 4, 8}) y.handler(reason, reason);
        y.open(1, true);
        y.enter();
        y.send(1, 3);
        Due.is("19 a HANDLER for other REASONS alone", y.is(11), 0);
        y.want(0, 1);
        y.event(0);
        Due.is("19 not by an EXIT that the host sees", y.is(11), 0);
    }

    /** (i) to (iii) by all RIGHTS of all three TABLES (0: no ENTRY), each WAY. */
    private static void byRights() {
        for (int all = 0; all < 8 * 8 * 8 * 3; all++) {
            int way = all % 3;
            int r0 = all / 3 % 8;
            int r1 = all / 24 % 8;
            int r2 = all / 192;
            GuestLevels x = Made.led(r0, r1, r2);
            int due = way == 1 ? 77 : r2 == 0 ? 0 : 44;
            if (r2 != 0 && (r2 >> way & 1) == 0) due = -4;
            if ((r1 >> way & 1) == 0) due = -3;
            if ((r0 >> way & 1) == 0) due = -2;
            String what = " by RIGHTS " + r0 + ", " + r1 + ", " + r2 + ", WAY " + way;
            Due.is("39 given" + what, x.given(3), r0 & r1 & r2);
            Due.is("9 touch" + what, x.touch(3, way, 77), due);
            Due.is("27 seen by the host" + what, x.is(5), due == -2 || due == -3 ? 0 : 1);
            Due.is("27 dealt" + what, x.is(6), due == -3 ? 1 : 0);
            Due.is("27 TRAPPED" + what, x.is(7), due == -2 ? 1 : 0);
            Due.is("28 FOLDED" + what, x.told(3, 5, 1), due < 0 ? -1 : r2 == 0 ? r1 : r1 & r2);
            Due.is("36 HEARD" + what, x.heard(-1), due < 0 || way == 1 ? 0 : 1);
        }
    }

    /** "(i) has TABLE 0 no ENTRY, or not that RIGHT: it TRAPS: that is EVENT 0, and all" */
    private static void trapsWithoutEntry() {
        for (int way = 0; way < 3; way++) {
            GuestLevels x = Made.straight(2);
            x.touch(0, 0, 0);
            x.clear(0, 0);
            Due.is("9 no ENTRY any more, though it is FOLDED", x.touch(0, way, 5), -2);
            Due.is("51 EVENT 0", x.seenOf(0, 2), 1);
            Due.is("27 no EXIT by that", x.is(5), 1);
            Due.is("30 nothing is WRITTEN", x.frame(0), 0);
            Due.is("27 LEVEL", x.is(0), 2);
            x.entry(0, 0, 0, 7 - (1 << way));
            Due.is("9 not that RIGHT", x.touch(0, way, 5), -2);
            Due.is("51 EVENT 0 again", x.seenOf(0, 2), 2);
        }
    }

    /** "is it nobody's but its own, that VIRTUAL PAGE is TRAPPED" */
    private static void trapsAlone() {
        for (int page = 0; page < 16; page++) {
            GuestLevels x = Made.entered();
            x.touch(page, 0, 0);
            Due.is("35 VIRTUAL PAGE " + page, x.trapped(0), page);
            Due.is("27 how often", x.is(7), 1);
        }
    }

    private static void trapsThatAreWanted() {
        GuestLevels x = new GuestLevels();
        x.want(0, 1);
        x.enter();
        Due.is("9 TRAPS, seen by the host", x.touch(9, 0, 0), -2);
        Due.is("35 not TRAPPED", x.trapped(0), -1);
        Due.is("27 not counted", x.is(7), 0);
        Due.is("45 REASON 4", x.exit(0, 1), 4);
        Due.is("45 DETAIL 0", x.exit(0, 2), 0);
        x.want(0, 254);
        x.touch(9, 0, 0);
        Due.is("35 EVENT 0 alone is looked at", x.trapped(0), 9);
        Made.leave(x);
        x.want(1, 1);
        x.enter();
        x.touch(8, 0, 0);
        Due.is("35 dealt: not TRAPPED", x.trapped(0), 9);
        Due.is("27 dealt: LEVEL", x.is(0), 1);
        Due.is("27 counted once", x.is(7), 1);
    }

    /** "(ii) Has FOLDED an ENTRY of the INNER PAGE with that RIGHT: it is done at that FRAME" */
    private static void doneWhereFolded() {
        for (int way = 0; way < 3; way++) {
            GuestLevels x = Made.led(7, 7, 7);
            x.touch(3, 0, 0);
            int due = way == 1 ? 9999 : 44;
            Due.is("9 WAY " + way + ": the VALUE", x.touch(3, way, 9999), due);
            Due.is("30 VALUE then", x.frame(4), due);
            Due.is("27 no EXIT by that", x.is(5), 1);
            Due.is("36 HEARD", x.heard(-1), way == 1 ? 1 : 2);
        }
        GuestLevels y = Made.led(7, 3, 7);
        y.touch(3, 0, 0);
        Due.is("9 FOLDED, but not with that RIGHT", y.touch(3, 2, 0), -3);
    }

    /** "(iii) .. has TABLE 1 no ENTRY of the INNER PAGE, or not that RIGHT: an EXIT .. (REASON 1, DETAIL: 4 times ..)" */
    private static void dealtByReason1() {
        for (int page = 0; page < 16; page += 5) {
            for (int way = 0; way < 3; way++) {
                for (int rights : new int[] {0, 7 - (1 << way)}) {
                    GuestLevels x = new GuestLevels();
                    if (rights != 0) x.entry(1, page, 0, rights);
                    x.enter();
                    x.entry(0, 1, page, 7);
                    Due.is("9 dealt", x.touch(1, way, 0), -3);
                    Due.is("45 who", x.exit(0, 0), 1);
                    Due.is("45 REASON 1", x.exit(0, 1), 1);
                    Due.is("45 DETAIL", x.exit(0, 2), 4 * page + way);
                    Due.is("27 LEVEL", x.is(0), 1);
                    Due.is("33 no FRAME is GIVEN", x.backed(0), -1);
                }
            }
        }
    }

    /** "Else the host sees an EXIT (REASON 2, DETAIL likewise)." */
    private static void seenByReason2() {
        for (int page = 0; page < 16; page += 5) {
            for (int way = 0; way < 3; way++) {
                GuestLevels x = Made.straight(16);
                x.touch(page, way, 0);
                Due.is("45 how many", x.exit(-1, 0), 1);
                Due.is("45 who", x.exit(0, 0), 0);
                Due.is("45 REASON 2", x.exit(0, 1), 2);
                Due.is("45 DETAIL", x.exit(0, 2), 4 * page + way);
                Due.is("27 LEVEL", x.is(0), 2);
            }
        }
    }

    /** "Has TABLE 2 no ENTRY of the OUTER PAGE: it is GIVEN a FRAME." */
    private static void givenOnTouch() {
        GuestLevels x = Made.led(7, 1, 0);
        Due.is("9 READ", x.touch(3, 0, 0), 0);
        Due.is("28 TABLE 2", x.told(2, 2, 0), 0);
        Due.is("28 all RIGHTS", x.told(2, 2, 1), 7);
        Due.is("28 FOLDED with those of both", x.told(3, 5, 1), 1);
        Due.is("45 one EXIT", x.exit(-1, 0), 1);
        GuestLevels y = Made.led(7, 7, 7);
        y.touch(3, 0, 0);
        Due.is("28 it has an ENTRY: no other FRAME", y.told(2, 2, 0), 4);
        Due.is("27 FREE", y.is(4), 9);
    }

    /** "Has TABLE 2 not that RIGHT: that is all." */
    private static void refusedByTable2() {
        for (int way = 0; way < 3; way++) {
            GuestLevels x = Made.led(7, 7, 7 - (1 << way));
            Due.is("9 -4", x.touch(3, way, 5), -4);
            Due.is("27 not FOLDED", x.is(3), 0);
            Due.is("45 REASON 2", x.exit(0, 1), 2);
            Due.is("30 VALUE stays", x.frame(4), 44);
            Due.is("36 none is HEARD", x.heard(-1), 0);
            Due.is("27 LEVEL", x.is(0), 2);
        }
    }

    /** "FOLDED has the ENTRY (are there ROOM others, the one that came longest ago goes first)" */
    private static void roomOthers() {
        for (int room : new int[] {1, 2, 15}) {
            GuestLevels x = Made.straight(16);
            x.room(room);
            for (int p = 0; p < room; p++) x.touch(15 - p, 0, 0);
            Due.is("27 ROOM " + room + ": as many", x.is(3), room);
            Due.is("29 none went", x.folded(0), 15);
            x.touch(15 - room, 0, 0);
            Due.is("27 ROOM " + room + ": no more", x.is(3), room);
            Due.is("28 the first went", x.told(3, 15, 0), -1);
            Due.is("29 the latest is the last", x.folded(room - 1), 15 - room);
        }
    }

    /** "TOUCHED by the outer guest .. has TABLE 2 no ENTRY: .. (REASON 2, DETAIL 64 and 4 times the PAGE and WAY)" */
    private static void outerWithoutEntry() {
        for (int page = 0; page < 16; page += 5) {
            for (int way = 0; way < 3; way++) {
                GuestLevels x = new GuestLevels();
                Due.is("9 done then", x.touch(page, way, 6), way == 1 ? 6 : 0);
                Due.is("45 who", x.exit(0, 0), 0);
                Due.is("45 REASON 2", x.exit(0, 1), 2);
                Due.is("45 DETAIL", x.exit(0, 2), 64 + 4 * page + way);
                Due.is("28 GIVEN", x.told(2, page, 0), 0);
                Due.is("9 again", x.touch(page, way, 6), way == 1 ? 6 : 0);
                Due.is("45 no EXIT any more", x.exit(-1, 0), 1);
            }
        }
    }

    /** "Has it not that RIGHT: the host sees an EXIT (REASON 3, DETAIL likewise), that is all." */
    private static void outerWithoutRight() {
        for (int page = 0; page < 16; page += 5) {
            for (int way = 0; way < 3; way++) {
                GuestLevels x = new GuestLevels();
                x.entry(2, page, 7, 7 - (1 << way));
                Due.is("9 -4", x.touch(page, way, 6), -4);
                Due.is("45 who", x.exit(0, 0), 0);
                Due.is("45 REASON 3", x.exit(0, 1), 3);
                Due.is("45 DETAIL", x.exit(0, 2), 64 + 4 * page + way);
                Due.is("30 VALUE stays", x.frame(7), 77);
                Due.is("37 not CHANGED", x.changed(), 0);
            }
        }
    }

    /** "Else it is done." */
    private static void outerDone() {
        for (int way = 0; way < 3; way++) {
            GuestLevels x = new GuestLevels();
            x.entry(2, 15, 9, 1 << way);
            Due.is("9 that RIGHT alone", x.touch(15, way, 0), way == 1 ? 0 : 99);
            Due.is("45 no EXIT", x.exit(-1, 0), 0);
            Due.is("36 the outer guest isn't HEARD", x.heard(-1), 0);
            Due.is("27 nothing is FOLDED", x.is(3), 0);
        }
    }

    /** OUTER PAGES 0 and 15 as COPIED ONES at FRAME 2, by these RIGHTS. */
    private static GuestLevels copies(int rights0, int rights15) {
        GuestLevels x = new GuestLevels();
        x.entry(2, 15, 3, 7);
        x.touch(15, 1, 22);
        x.entry(2, 0, 2, rights0);
        x.entry(2, 15, 3, rights15);
        x.join();
        x.forget();
        return x;
    }

    /** "Is WRITE asked of a COPIED ONE that has that RIGHT: .. (REASON 9, DETAIL likewise), it is PARTED, then it is done." */
    private static void outerWritesCopy() {
        GuestLevels x = copies(7, 7);
        Due.is("34 both", x.copied(), 32769);
        Due.is("9 READ", x.touch(15, 0, 0), 22);
        Due.is("9 RUN", x.touch(15, 2, 0), 22);
        Due.is("45 no EXIT by those", x.exit(-1, 0), 0);
        Due.is("9 WRITE", x.touch(15, 1, 8), 8);
        Due.is("45 REASON 9", x.exit(0, 1), 9);
        Due.is("45 DETAIL", x.exit(0, 2), 64 + 60 + 1);
        Due.is("45 no other EXIT", x.exit(-1, 0), 1);
        Due.is("28 another FRAME", x.told(2, 15, 0), 0);
        Due.is("30 the other one's VALUE", x.frame(2), 22);
        GuestLevels y = copies(5, 7);
        Due.is("9 a COPIED ONE that has not that RIGHT", y.touch(0, 1, 8), -4);
        Due.is("45 REASON 3", y.exit(0, 1), 3);
        Due.is("45 DETAIL of PAGE 0", y.exit(0, 2), 65);
        Due.is("34 both yet", y.copied(), 32769);
    }

    /** "FOLDED AHEAD: LAZY INNER PAGES, the lowest first .. (no EXIT)": there are none. */
    private static void foldedAheadNone() {
        GuestLevels x = new GuestLevels();
        Due.is("5 no ENTRIES", x.foldAhead(), 0);
        x.entry(1, 0, 0, 7);
        Due.is("5 none of TABLE 2", x.foldAhead(), 0);
        x.entry(2, 0, 0, 7);
        Due.is("5 one", x.foldAhead(), 1);
        Due.is("5 none any more", x.foldAhead(), 0);
        Due.is("45 no EXIT", x.exit(-1, 0), 0);
    }

    /** "as long as there are fewer ENTRIES than ROOM" */
    private static void foldedAheadByRoom() {
        for (int room = 1; room <= 16; room++) {
            GuestLevels x = Made.straight(16);
            x.room(room);
            Due.is("5 as many as ROOM " + room, x.foldAhead(), room);
            Due.is("29 the lowest first", x.folded(0), 0);
            Due.is("29 the last", x.folded(room - 1), room - 1);
            Due.is("5 none without ROOM", x.foldAhead(), 0);
        }
        GuestLevels y = Made.straight(16);
        for (int p = 15; p > 10; p--) y.touch(p, 0, 0);
        Due.is("5 five others: one", y.foldAhead(), 1);
        Due.is("29 none went", y.folded(0), 15);
        Due.is("29 the lowest came", y.folded(5), 0);
        GuestLevels z = Made.straight(3);
        Due.is("5 fewer than ROOM", z.foldAhead(), 3);
        Due.is("27 FOLDED", z.is(3), 3);
    }

    /** LAZY alone are FOLDED AHEAD: of no common RIGHT isn't. */
    private static void foldedAheadLazyOnes() {
        for (int r1 = 1; r1 <= 7; r1++) {
            for (int r2 = 1; r2 <= 7; r2++) {
                GuestLevels x = Made.led(0, r1, r2);
                boolean lazy = (r1 & r2) != 0;
                Due.is("40 RIGHTS " + r1 + ", " + r2, x.lazy(), lazy ? 32 : 0);
                Due.is("5 RIGHTS " + r1 + ", " + r2, x.foldAhead(), lazy ? 1 : 0);
                Due.is("28 RIGHTS of both", x.told(3, 5, 1), lazy ? r1 & r2 : -1);
            }
        }
    }

    /** "Then it has an ENTRY: the lowest FREE FRAME" */
    private static void givenTheLowest() {
        for (int free = 0; free < 10; free++) {
            GuestLevels x = new GuestLevels();
            for (int f = 0; f < 10; f++) if (f != free) x.entry(2, f, f, 7);
            x.touch(15, 0, 0);
            Due.is("28 the one FREE FRAME " + free, x.told(2, 15, 0), free);
            Due.is("27 none was SWAPPED", x.is(8), 0);
        }
        GuestLevels y = new GuestLevels();
        y.entry(2, 3, 0, 7);
        y.entry(2, 4, 2, 7);
        y.touch(9, 0, 0);
        Due.is("28 the lowest of many", y.told(2, 9, 0), 1);
        Due.is("33 it came latest", y.backed(2), 9);
    }

    /** "all RIGHTS; the FRAME's VALUE is the one that is STORED for it .., 0 without; the FRAME is CHANGED" */
    private static void givenAllRights() {
        GuestLevels x = new GuestLevels();
        for (int f = 0; f < 9; f++) x.entry(2, f, f, 1);
        Due.is("30 ahead", x.frame(9), 99);
        Due.is("9 0 without", x.touch(12, 2, 0), 0);
        Due.is("30 VALUE 0", x.frame(9), 0);
        Due.is("28 all RIGHTS", x.told(2, 12, 1), 7);
        Due.is("37 CHANGED", x.changed(), 512);
    }

    /** "as long as no FRAME is FREE .., the ENTRY of TABLE 2 that came longest ago is gone, the VALUE .. is STORED .." */
    private static void swappedAtTen() {
        GuestLevels x = new GuestLevels();
        for (int p = 9; p >= 0; p--) x.touch(p, 1, 30 + p);
        Due.is("27 none is FREE", x.is(4), 0);
        Due.is("27 none was SWAPPED yet", x.is(8), 0);
        x.touch(10, 0, 0);
        Due.is("27 SWAPPED", x.is(8), 1);
        Due.is("28 the one that came longest ago is gone", x.told(2, 9, 0), -1);
        Due.is("32 STORED", x.stored(9), 39);
        Due.is("28 in its FRAME", x.told(2, 10, 0), 0);
        Due.is("27 none is FREE then", x.is(4), 0);
        for (int p = 0; p < 9; p++) Due.is("28 PAGE " + p + " stays", x.told(2, p, 1), 7);
        x.clear(2, 4);
        x.touch(11, 0, 0);
        Due.is("27 one was FREE", x.is(8), 1);
        Due.is("32 not STORED by clear", x.stored(4), -1);
    }

    /** "the ENTRY .. is gone": nothing leads there any more. */
    private static void swappedLeadsNowhere() {
        GuestLevels x = new GuestLevels();
        for (int p = 0; p < 10; p++) x.touch(p, 0, 0);
        x.entry(1, 5, 0, 7);
        x.enter();
        x.entry(0, 3, 5, 7);
        Due.is("38 ahead", x.walk(3, 0), 0);
        Made.leave(x);
        x.touch(10, 0, 0);
        Due.is("38 TABLE 2 has no ENTRY", x.walk(3, 0), -4);
        Due.is("39 no RIGHTS", x.given(3), 0);
        Due.is("40 not LAZY", x.lazy(), 0);
        Due.is("41 not at its FRAME", x.aliases(0), 0);
        Due.is("33 the next one is the first", x.backed(0), 1);
        Due.is("33 ten yet", x.backed(9), 10);
    }

    /** The same, when others lead to the FRAME of the one that goes. */
    private static void swappedWithSharedFrames() {
        GuestLevels x = new GuestLevels();
        for (int p = 0; p < 6; p++) x.entry(2, p, 0, 7);
        for (int f = 1; f < 10; f++) x.entry(2, 5 + f, f, 7);
        x.touch(15, 0, 0);
        Due.is("27 all six at FRAME 0", x.is(8), 6);
        for (int p = 0; p < 6; p++) Due.is("32 STORED for each", x.stored(p), 0);
        Due.is("28 GIVEN it", x.told(2, 15, 0), 0);
        Due.is("33 others stay", x.backed(0), 6);
        GuestLevels y = new GuestLevels();
        y.entry(2, 0, 4, 7);
        for (int f = 0; f < 10; f++) y.entry(2, 1 + f, f, 7);
        y.touch(15, 0, 0);
        Due.is("27 PAGE 0 didn't help, PAGE 1 did", y.is(8), 2);
        Due.is("32 STORED for the first", y.stored(0), 44);
        Due.is("32 STORED for the second", y.stored(1), 0);
        Due.is("28 PAGE 5 stays", y.told(2, 5, 0), 4);
    }

    private static void givenWhatIsStored() {
        GuestLevels x = new GuestLevels();
        for (int p = 0; p < 10; p++) x.touch(p, 1, 9990 + p);
        x.touch(10, 1, 1);
        Due.is("32 STORED", x.stored(0), 9990);
        Due.is("9 what is STORED", x.touch(0, 0, 0), 9990);
        Due.is("32 STORED no more", x.stored(0), -1);
        Due.is("32 but for the next one", x.stored(1), 9991);
        x.entry(2, 1, 5, 7);
        Due.is("32 told by hand: no more", x.stored(1), -1);
        Due.is("9 the VALUE at that FRAME", x.touch(1, 0, 0), 9995);
    }

    /** "JOINED .. as long as TABLE 2 leads to two FRAMES with like VALUES": it leads to none, one, unlike ones. */
    private static void joinedNone() {
        GuestLevels x = new GuestLevels();
        Due.is("6 to none", x.join(), 0);
        x.entry(2, 0, 4, 7);
        Due.is("6 to one", x.join(), 0);
        x.entry(2, 1, 4, 7);
        Due.is("6 twice to one", x.join(), 0);
        Due.is("34 none is a COPIED ONE by that", x.copied(), 0);
        x.entry(2, 2, 5, 7);
        Due.is("6 to unlike ones", x.join(), 0);
        x.touch(2, 1, 44);
        Due.is("6 to like ones", x.join(), 1);
        Due.is("34 all three", x.copied(), 7);
        Due.is("6 none any more", x.join(), 0);
    }

    private static void joinedOnlyLedTo() {
        GuestLevels x = new GuestLevels();
        x.entry(2, 0, 0, 7);
        x.touch(0, 1, 99);
        Due.is("6 nothing leads to FRAME 9", x.join(), 0);
        x.entry(2, 15, 9, 7);
        Due.is("6 PAGE 15 does", x.join(), 1);
        Due.is("28 to the lower one", x.told(2, 15, 0), 0);
        GuestLevels y = new GuestLevels();
        for (int p = 0; p < 10; p++) y.touch(p, 1, 3);
        Due.is("6 all ten", y.join(), 9);
        Due.is("27 nine are FREE", y.is(4), 9);
        Due.is("34 all are COPIED ONES", y.copied(), 1023);
    }

    /** "of the lowest one that has such another one, and the lowest such other one: all ENTRIES .. lead to the former" */
    private static void joinedTheLowest() {
        GuestLevels x = new GuestLevels();
        for (int f = 0; f < 10; f++) x.entry(2, 15 - f, f, 7);
        x.touch(15 - 9, 1, 22);
        x.touch(15 - 5, 1, 22);
        x.touch(15 - 8, 1, 33);
        Due.is("6 FRAMES 2, 5, 9 and 3, 8", x.join(), 3);
        Due.is("28 of FRAME 5", x.told(2, 10, 0), 2);
        Due.is("28 of FRAME 9", x.told(2, 6, 0), 2);
        Due.is("28 of FRAME 2", x.told(2, 13, 0), 2);
        Due.is("28 of FRAME 8", x.told(2, 7, 0), 3);
        Due.is("34 those five", x.copied(), 1 << 13 | 1 << 10 | 1 << 6 | 1 << 12 | 1 << 7);
        Due.is("42 the lowest FREE", x.free(), 5);
        Due.is("27 FREE", x.is(4), 3);
    }

    /** "(by when they came: as ahead)" */
    private static void joinedKeepsAge() {
        GuestLevels x = new GuestLevels();
        int[] pages = {7, 2, 9, 4};
        for (int p : pages) x.touch(p, 1, 6);
        x.join();
        for (int i = 0; i < 4; i++) Due.is("33 as ahead", x.backed(i), pages[i]);
        Due.is("33 no other", x.backed(4), -1);
    }

    /** "FOLDED has none of their INNER PAGES then" */
    private static void joinedUnfolds() {
        GuestLevels x = Made.straight(4);
        x.entry(0, 9, 9, 7);
        Made.leave(x);
        x.entry(1, 9, 2, 7);
        x.touch(2, 1, 0);
        Due.is("5 all five", x.foldAhead(), 5);
        Due.is("6 FRAMES 0 and 2", x.join(), 1);
        Due.is("28 FOLDED of INNER PAGE 0", x.told(3, 0, 0), -1);
        Due.is("28 FOLDED of INNER PAGE 2", x.told(3, 2, 0), -1);
        Due.is("28 FOLDED of INNER PAGE 9, too", x.told(3, 9, 0), -1);
        Due.is("27 the others", x.is(3), 2);
    }

    /** "COPIED ONES (till they are told, GIVEN, gone or PARTED)" */
    private static void copiedTillTold() {
        GuestLevels x = copies(7, 7);
        x.entry(2, 0, 2, 7);
        Due.is("34 told", x.copied(), 32768);
        Due.is("9 WRITE there isn't PARTED", x.touch(0, 1, 5), 5);
        Due.is("30 at the FRAME of both", x.frame(2), 5);
        x.clear(2, 15);
        Due.is("34 gone", x.copied(), 0);
        GuestLevels y = copies(7, 7);
        y.touch(0, 1, 9);
        Due.is("34 PARTED", y.copied(), 32768);
        y.touch(15, 1, 9);
        Due.is("34 PARTED, alone at its FRAME", y.copied(), 0);
        Due.is("28 at its FRAME", y.told(2, 15, 0), 2);
    }

    private static void copiedTillGiven() {
        GuestLevels x = copies(7, 7);
        for (int p = 1; p < 10; p++) x.touch(p, 1, 100 + p);
        Due.is("27 none is FREE", x.is(4), 0);
        Due.is("34 both yet", x.copied(), 32769);
        x.touch(10, 1, 110);
        Due.is("34 both are SWAPPED", x.copied(), 0);
        Due.is("27 counted each", x.is(8), 2);
        x.touch(0, 0, 0);
        Due.is("34 GIVEN: no COPIED ONE", x.copied(), 0);
        Due.is("28 with all RIGHTS", x.told(2, 0, 1), 7);
    }

    /** "A COPIED ONE doesn't give WRITE (to walk, to be FOLDED with), whatever RIGHTS it has." */
    private static void copiedGivesNoWrite() {
        for (int rights = 1; rights <= 7; rights++) {
            GuestLevels x = copies(rights, 7);
            x.entry(1, 6, 0, 7);
            int gives = rights & 5;
            Due.is("40 some RIGHT, of " + rights, x.lazy(), gives != 0 ? 64 : 0);
            Due.is("5 if it is LAZY, of " + rights, x.foldAhead(), gives != 0 ? 1 : 0);
            Due.is("28 FOLDED without WRITE, of " + rights, x.told(3, 6, 1), gives != 0 ? gives : -1);
            Due.is("28 its own RIGHTS", x.told(2, 0, 1), rights);
            x.enter();
            x.entry(0, 1, 6, 7);
            Due.is("38 READ, of " + rights, x.walk(1, 0), (rights & 1) != 0 ? 2 : -4);
            Due.is("38 WRITE, of " + rights, x.walk(1, 1), -4);
            Due.is("38 RUN, of " + rights, x.walk(1, 2), (rights & 4) != 0 ? 2 : -4);
        }
    }

    /** "PARTED: does no other ENTRY lead to its FRAME, it is no COPIED ONE any more, FOLDED has none of its INNER PAGES" */
    private static void partedAlone() {
        GuestLevels x = copies(7, 3);
        x.clear(2, 0);
        x.entry(1, 4, 15, 7);
        x.entry(1, 5, 1, 7);
        x.entry(2, 1, 1, 7);
        x.foldAhead();
        Due.is("34 alone yet", x.copied(), 32768);
        Due.is("9 WRITE", x.touch(15, 1, 6), 6);
        Due.is("34 no COPIED ONE", x.copied(), 0);
        Due.is("28 at its FRAME", x.told(2, 15, 0), 2);
        Due.is("28 with its RIGHTS", x.told(2, 15, 1), 3);
        Due.is("33 by when it came as ahead", x.backed(0), 15);
        Due.is("28 FOLDED no more", x.told(3, 4, 0), -1);
        Due.is("28 FOLDED of another one", x.told(3, 5, 0), 1);
        Due.is("9 WRITE again", x.touch(15, 1, 7), 7);
        Due.is("46 no EXIT by that", x.exits(9), 1);
    }

    /** "else its ENTRY is gone, the VALUE at its FRAME is STORED .., and that is GIVEN a FRAME (not SWAPPED by that)" */
    private static void partedFromOthers() {
        GuestLevels x = copies(7, 7);
        x.entry(1, 4, 15, 7);
        x.entry(1, 5, 0, 7);
        x.foldAhead();
        x.touch(15, 1, 6);
        Due.is("28 the lowest FREE FRAME", x.told(2, 15, 0), 0);
        Due.is("33 it came latest", x.backed(1), 15);
        Due.is("32 STORED no more", x.stored(15), -1);
        Due.is("27 not SWAPPED", x.is(8), 0);
        Due.is("30 WRITTEN at its own", x.frame(0), 6);
        Due.is("30 the other one's", x.frame(2), 22);
        Due.is("37 CHANGED", x.changed(), 1);
        Due.is("28 FOLDED no more", x.told(3, 4, 0), -1);
        Due.is("28 FOLDED of the other one", x.told(3, 5, 1), 5);
        Due.is("34 the other one", x.copied(), 1);
    }

    /** GIVEN a FRAME to a PARTED one, and no FRAME is FREE. */
    private static void partedWithoutAFreeFrame() {
        GuestLevels x = new GuestLevels();
        x.touch(5, 1, 500);
        x.touch(6, 1, 600);
        x.touch(7, 1, 600);
        x.join();
        for (int p = 8; p < 16; p++) x.touch(p, 1, 100 + p);
        Due.is("27 none is FREE", x.is(4), 0);
        Due.is("9 WRITE", x.touch(7, 1, 1), 1);
        Due.is("27 the one that came longest ago is SWAPPED", x.is(8), 1);
        Due.is("32 STORED", x.stored(5), 500);
        Due.is("28 in its FRAME", x.told(2, 7, 0), 0);
        Due.is("30 the other one's VALUE", x.frame(1), 600);
        Due.is("32 nothing is STORED for it", x.stored(7), -1);
    }

    /** "(iii) .. Is WRITE asked of a COPIED ONE that has that RIGHT, it is PARTED." */
    private static void partedByInner() {
        for (int rights = 1; rights <= 7; rights++) {
            GuestLevels x = copies(7, rights);
            x.entry(1, 4, 15, 7);
            x.enter();
            x.entry(0, 1, 4, 7);
            boolean parts = (rights & 2) != 0;
            Due.is("9 WRITE by RIGHTS " + rights, x.touch(1, 1, 9), parts ? 9 : -4);
            Due.is("45 one EXIT by RIGHTS " + rights, x.exit(-1, 0), 1);
            Due.is("45 REASON 2", x.exit(0, 1), 2);
            Due.is("34 COPIED by RIGHTS " + rights, x.copied(), parts ? 1 : 32769);
            Due.is("28 FRAME by RIGHTS " + rights, x.told(2, 15, 0), parts ? 0 : 2);
            Due.is("28 FOLDED by RIGHTS " + rights, x.told(3, 4, 1), parts ? 7 : -1);
        }
        GuestLevels z = copies(7, 7);
        z.clear(2, 0);
        z.entry(1, 4, 15, 7);
        z.entry(1, 6, 15, 7);
        z.foldAhead();
        z.enter();
        z.entry(0, 1, 4, 7);
        Due.is("9 alone at its FRAME", z.touch(1, 1, 9), 9);
        Due.is("28 FOLDED anew", z.told(3, 4, 1), 7);
        Due.is("28 FOLDED of the other INNER PAGE no more", z.told(3, 6, 1), -1);
        Due.is("34 no COPIED ONE", z.copied(), 0);
        GuestLevels y = copies(7, 7);
        y.entry(1, 4, 15, 5);
        y.enter();
        y.entry(0, 1, 4, 7);
        Due.is("9 TABLE 1 gives no WRITE: dealt", y.touch(1, 1, 9), -3);
        Due.is("34 not PARTED by that", y.copied(), 32769);
    }

    /** "A FRAME is CHANGED, if it is WRITTEN, too (till that is forgotten)." */
    private static void changedByWrite() {
        GuestLevels x = Made.straight(10);
        Due.is("37 none", x.changed(), 0);
        for (int way = 0; way < 3; way += 2) x.touch(9, way, 0);
        Due.is("37 not by READ, RUN", x.changed(), 0);
        x.touch(9, 1, 99);
        Due.is("37 WRITTEN, the same VALUE, too", x.changed(), 512);
        x.touch(0, 1, 1);
        Due.is("37 both", x.changed(), 513);
        Due.is("21 forgotten", x.forget(), 2);
        Due.is("37 none any more", x.changed(), 0);
        x.touch(0, 1, 1);
        Due.is("37 again", x.changed(), 1);
    }
}
