/** The part "Terms" ahead of the promises: each sentence there that gives bounds, or how it is at first. */
public final class TermsEdgesTest {
    private TermsEdgesTest() {
    }

    public static void main(String[] args) {
        calls();
        pages();
        pagesAsked();
        frames();
        values();
        tables();
        noEntriesAtFirst();
        rights();
        rightsAdded();
        roomAtFirst();
        roomAtMost();
        levelAtFirst();
        wanted();
        vectors();
        openAtFirst();
        time();
        clockOfHost();
        clockOfOuter();
        clockOfInner();
        scalesAndOffsets();
        timersAtMost();
        timersTold();
        exitsWrittenDown();
        exitsCounted();
        stored();
        handlers();
        handlerPlaces();
        slice();
        left();
        heard();
        changed();
        copied();
        trapPlace();
        trapped();
        innerGuests();
        Due.end();
    }

    /** "An object is used for at most 512 calls after it has been made" */
    private static void calls() {
        GuestLevels x = new GuestLevels();
        for (int i = 0; i < 254; i++) {
            x.pass(1);
            x.touch(i % 16, 1, i);
        }
        Due.is("27 the 509th call", x.is(1), 254);
        Due.is("30 the 510th call", x.frame(3), 253);
        Due.is("70 the 511th call", x.steps(), 20);
        Due.is("26 the 512th call", x.undo(), 19);
    }

    /** "PAGES 0 .. 15 of three sorts (VIRTUAL, INNER, OUTER)" */
    private static void pages() {
        Edges.taken("2 VIRTUAL PAGE", 0, 15, p -> Made.entered().entry(0, p, 0, 7));
        Edges.taken("2 VIRTUAL PAGE to INNER PAGE", 0, 15, p -> Made.entered().entry(0, 0, p, 7));
        Edges.taken("2 INNER PAGE", 0, 15, p -> Made.fresh().entry(1, p, 0, 7));
        Edges.taken("2 INNER PAGE to OUTER PAGE", 0, 15, p -> Made.fresh().entry(1, 0, p, 7));
        Edges.taken("2 OUTER PAGE", 0, 15, p -> Made.fresh().entry(2, p, 0, 7));
        Edges.taken("3 VIRTUAL PAGE", 0, 15, p -> Made.straight(16).clear(0, p));
        Edges.taken("3 OUTER PAGE", 0, 15, p -> Made.straight(16).clear(2, p));
        Edges.taken("3 INNER PAGE", 0, 15, p -> {
            GuestLevels x = Made.straight(16);
            Made.leave(x);
            return x.clear(1, p);
        });
        Edges.taken("9 VIRTUAL PAGE", 0, 15, p -> Made.entered().touch(p, 0, 0) == -2);
        Edges.taken("9 OUTER PAGE", 0, 15, p -> Made.fresh().touch(p, 0, 0) == 0);
    }

    /** The same, of what is asked. */
    private static void pagesAsked() {
        GuestLevels x = Made.straight(16);
        x.room(16);
        x.foldAhead();
        for (int table = 0; table < 4; table++) {
            int of = table;
            Edges.taken("28 PAGE of TABLE " + of, 0, 15, p -> x.told(of, p, 0) != -1);
        }
        Edges.taken("38 VIRTUAL PAGE", 0, 15, p -> x.walk(p, 0) >= 0);
        Edges.taken("39 VIRTUAL PAGE", 0, 15, p -> x.given(p) == 7);
        Edges.taken("64 INNER PAGE", 0, 15, p -> x.plainly(1, p) >= 0);
        Due.is("41 VIRTUAL PAGES 5 and 15", x.aliases(5), 1 << 5 | 1 << 15);
        Due.is("40 no INNER PAGE is LAZY", x.lazy(), 0);
        x.room(1);
        Due.is("40 INNER PAGES 0 to 14", x.lazy(), 32767);
        x.clear(2, 15);
        Due.is("40 all INNER PAGES but 15", x.lazy(), 32767);
        x.entry(2, 15, 5, 7);
        Due.is("40 all INNER PAGES", x.lazy(), 65535);
    }

    /** "FRAMES 0 .. 9" */
    private static void frames() {
        Edges.taken("2 OUTER PAGE to FRAME", 0, 9, f -> Made.fresh().entry(2, 0, f, 7));
        Edges.taken("30 FRAME", 0, 9, f -> Made.fresh().frame(f) != -1);
        Edges.taken("41 FRAME", 0, 9, f -> Made.fresh().aliases(f) != -1);
        GuestLevels x = new GuestLevels();
        for (int p = 0; p < 10; p++) {
            Due.is("27 FREE FRAMES", x.is(4), 10 - p);
            Due.is("42 the lowest", x.free(), p);
            x.touch(p, 0, 0);
        }
        Due.is("27 none is FREE", x.is(4), 0);
        Due.is("42 none is FREE", x.free(), -1);
    }

    /** "each with a VALUE (0 .. 9999; at first FRAME * 11)" */
    private static void values() {
        Edges.taken("9 VALUE by the outer guest", 0, 9999, v -> Made.fresh().touch(0, 1, v) == v && v >= 0);
        Edges.taken("9 VALUE by the inner guest", 0, 9999, v -> Made.straight(1).touch(0, 1, v) == v && v >= 0);
        Edges.taken("23 VALUE of an ACT", 0, 9999, v -> Made.fresh().act(1, 1, 0, v) == 1);
        GuestLevels x = new GuestLevels();
        for (int f = 0; f < 10; f++) Due.is("30 VALUE at first of FRAME " + f, x.frame(f), f * 11);
    }

    /** "TABLES: 0 leads VIRTUAL PAGES to INNER ones, 1 INNER to OUTER ones, 2 OUTER ones to FRAMES" */
    private static void tables() {
        Edges.taken("2 TABLE, told in LEVEL 1", 1, 2, t -> Made.fresh().entry(t, 0, 0, 7));
        Edges.others("2 TABLE, told in LEVEL 2", 0, 2, 0, t -> Made.entered().entry(t, 0, 0, 7) ? 1 : 0);
        Edges.others("3 TABLE", 0, 2, 0, t -> Made.straight(1).clear(t, 0) ? 1 : 0);
        GuestLevels x = Made.straight(1);
        x.touch(0, 0, 0);
        Edges.taken("28 TABLE, or FOLDED", 0, 3, t -> x.told(t, 0, 1) == 7);
        GuestLevels y = Made.led(7, 7, 7);
        Due.is("38 by one TABLE behind the other", y.walk(3, 0), 4);
    }

    /** "each ENTRY, if there is one (at first none)", "FOLDED .. (at first none)" */
    private static void noEntriesAtFirst() {
        GuestLevels x = new GuestLevels();
        for (int table = 0; table < 4; table++) {
            for (int page = 0; page < 16; page++) {
                Due.is("28 at first none of TABLE " + table + ", PAGE " + page, x.told(table, page, 0), -1);
                Due.is("28 nor RIGHTS of TABLE " + table + ", PAGE " + page, x.told(table, page, 1), -1);
            }
        }
        Due.is("29 at first none", x.folded(0), -1);
        Due.is("27 at first none is FOLDED", x.is(3), 0);
        Due.is("33 at first none", x.backed(0), -1);
    }

    /** "with RIGHTS 1 .. 7" */
    private static void rights() {
        Edges.taken("2 RIGHTS, TABLE 0", 1, 7, r -> Made.entered().entry(0, 0, 0, r));
        Edges.taken("2 RIGHTS, TABLE 1", 1, 7, r -> Made.fresh().entry(1, 0, 0, r));
        Edges.taken("2 RIGHTS, TABLE 2", 1, 7, r -> Made.fresh().entry(2, 0, 0, r));
        for (int rights = 1; rights <= 7; rights++) {
            GuestLevels x = Made.led(rights, 8 - rights, rights);
            Due.is("28 RIGHTS of TABLE 0", x.told(0, 3, 1), rights);
            Due.is("28 RIGHTS of TABLE 1", x.told(1, 5, 1), 8 - rights);
            Due.is("28 RIGHTS of TABLE 2", x.told(2, 2, 1), rights);
        }
    }

    /** "(1 to READ, 2 to WRITE, 4 to RUN, added)" */
    private static void rightsAdded() {
        for (int rights = 1; rights <= 7; rights++) {
            for (int way = 0; way < 3; way++) {
                boolean has = way == 0 ? rights % 2 == 1 : way == 1 ? rights % 4 >= 2 : rights >= 4;
                String what = "RIGHTS " + rights + ", WAY " + way;
                Due.is("38 TABLE 0, " + what, Made.led(rights, 7, 7).walk(3, way), has ? 4 : -2);
                Due.is("38 TABLE 1, " + what, Made.led(7, rights, 7).walk(3, way), has ? 4 : -3);
                Due.is("38 TABLE 2, " + what, Made.led(7, 7, rights).walk(3, way), has ? 4 : -4);
            }
        }
    }

    /** "ROOM ENTRIES at most (1 .. 16; at first 6)" */
    private static void roomAtFirst() {
        Due.is("27 ROOM at first", Made.fresh().is(2), 6);
        GuestLevels x = Made.straight(7);
        for (int p = 0; p < 6; p++) x.touch(p, 0, 0);
        Due.is("27 six are FOLDED", x.is(3), 6);
        Due.is("29 the first of them", x.folded(0), 0);
        x.touch(6, 0, 0);
        Due.is("27 not seven", x.is(3), 6);
        Due.is("29 the first went", x.folded(0), 1);
        Due.is("29 the seventh came", x.folded(5), 6);
        Due.is("29 and no other", x.folded(6), -1);
    }

    private static void roomAtMost() {
        Edges.taken("4 ROOM", 1, 16, r -> Made.fresh().room(r));
        GuestLevels x = Made.straight(16);
        x.room(16);
        for (int p = 0; p < 16; p++) {
            x.touch(p, 0, 0);
            Due.is("27 FOLDED by ROOM 16", x.is(3), p + 1);
        }
        Due.is("29 the sixteenth", x.folded(15), 15);
        Due.is("29 no more than sixteen", x.folded(16), -1);
        GuestLevels y = Made.straight(3);
        y.room(1);
        for (int p = 0; p < 3; p++) {
            y.touch(p, 0, 0);
            Due.is("27 FOLDED by ROOM 1", y.is(3), 1);
            Due.is("29 the latest alone", y.folded(0), p);
        }
    }

    /** "LEVEL: 1 the outer guest runs (at first), 2 the inner one." */
    private static void levelAtFirst() {
        Due.is("27 LEVEL at first", Made.fresh().is(0), 1);
        Due.is("27 LEVEL of the inner one", Made.entered().is(0), 2);
    }

    /** "WANTED by the host (0), by the outer guest (1): bits of EVENTS 0 .. 7 (at first 0)." */
    private static void wanted() {
        Edges.taken("8 by", 0, 1, by -> Made.fresh().want(by, 1));
        for (int by = 0; by < 2; by++) {
            int who = by;
            Edges.taken("8 EVENTS by " + by, 0, 255, e -> Made.fresh().want(who, e));
            Due.is("43 at first by " + by, Made.fresh().wanted(by), 0);
        }
        Due.is("43 at first by either", Made.fresh().wanted(2), 0);
        Edges.taken("10 EVENT of the outer guest", 0, 7, e -> Made.fresh().event(e) == 2);
        Edges.taken("10 EVENT of the inner one", 0, 7, e -> Made.entered().event(e) == 2);
        for (int k = 0; k < 8; k++) {
            GuestLevels x = new GuestLevels();
            x.want(1, 1 << k);
            for (int other = 0; other < 8; other++) {
                Due.is("44 bit " + k + ", EVENT " + other, x.whose(other), other == k ? 1 : 2);
            }
        }
    }

    /** "PENDING of the outer guest (1), the inner one (2), IN SERVICE of (1), (2): VECTORS 0 .. 15 (at first none)." */
    private static void vectors() {
        for (int guest = 1; guest <= 2; guest++) {
            int of = guest;
            Edges.taken("12 VECTOR of " + of, 0, 15, v -> Made.fresh().send(of, v));
            Due.is("47 at first of " + of, Made.fresh().pending(of), 0);
            Due.is("48 at first of " + of, Made.fresh().service(of), 0);
            GuestLevels x = new GuestLevels();
            for (int v = 0; v < 16; v++) Due.yes("12 VECTOR " + v + " of " + of, x.send(of, v));
            Due.is("47 all sixteen of " + of, x.pending(of), 65535);
        }
        GuestLevels y = new GuestLevels();
        y.open(1, true);
        for (int v = 0; v < 16; v++) y.send(1, v);
        Due.is("48 all sixteen", y.service(1), 65535);
        Due.is("47 none waits", y.pending(1), 0);
    }

    /** "OPEN (1), (2): true or false (at first both false)." */
    private static void openAtFirst() {
        Due.no("52 (1) at first", Made.fresh().isOpen(1));
        Due.no("52 (2) at first", Made.fresh().isOpen(2));
    }

    /** "TIME 0 .. 99999 (at first 0)." */
    private static void time() {
        Due.is("27 TIME at first", Made.fresh().is(1), 0);
        GuestLevels x = Made.late();
        Due.is("22 to 99999", x.pass(199), 0);
        Due.is("27 the greatest TIME", x.is(1), 99999);
        Due.is("22 not above", x.pass(1), -1);
        Due.is("25 not above", x.run(1), -1);
        Due.is("27 TIME stays", x.is(1), 99999);
    }

    /** "CLOCK of the host: TIME" */
    private static void clockOfHost() {
        GuestLevels x = new GuestLevels();
        x.scale(1, 64, 9999);
        x.scale(2, 64, 9999);
        Due.is("56 the host's at first", x.clock(0), 0);
        x.pass(200);
        Due.is("56 the host's isn't scaled", x.clock(0), 200);
    }

    /** "of the outer guest: TIME * SCALE by 16 (downward), and OFFSET" */
    private static void clockOfOuter() {
        GuestLevels x = new GuestLevels();
        x.scale(1, 1, 0);
        x.pass(15);
        Due.is("56 15 by 16, downward", x.clock(1), 0);
        x.pass(1);
        Due.is("56 16 by 16", x.clock(1), 1);
        x.pass(15);
        Due.is("56 31 by 16, downward", x.clock(1), 1);
        x.scale(1, 64, -1);
        Due.is("56 31 * 64 by 16, and -1", x.clock(1), 123);
        x.scale(1, 5, -9999);
        Due.is("56 155 by 16 downward, and -9999", x.clock(1), 9 - 9999);
        Due.is("56 by 16 and 0 at first", Made.fresh().clock(1), 0);
    }

    /** "of the inner one: the outer one's CLOCK * its SCALE by 16 (downward), and its OFFSET" */
    private static void clockOfInner() {
        int[][] due = {{-1, -1}, {-15, -1}, {-16, -1}, {-17, -2}, {-32, -2}, {-33, -3}, {0, 0}, {15, 0}, {16, 1}};
        for (int[] pair : due) {
            GuestLevels x = new GuestLevels();
            x.scale(1, 16, pair[0]);
            x.scale(2, 1, 0);
            Due.is("56 " + pair[0] + " by 16, downward", x.clock(2), pair[1]);
        }
        GuestLevels y = new GuestLevels();
        y.scale(1, 3, 0);
        y.scale(2, 8, 0);
        y.pass(10);
        // 30 by 16 is 1 downward, 8 by 16 is 0; without the first downward it would be 240 by 256
        Due.is("56 downward at each", y.clock(2), 0);
        y.scale(1, 3, 1);
        Due.is("56 the outer one's OFFSET is scaled", y.clock(2), 1);
        y.scale(2, 8, 7);
        Due.is("56 and its own added", y.clock(2), 8);
    }

    /** "(SCALES 1 .. 64, OFFSETS -9999 .. 9999; at first 16, 0)" */
    private static void scalesAndOffsets() {
        for (int guest = 1; guest <= 2; guest++) {
            int of = guest;
            Edges.taken("16 SCALE of " + of, 1, 64, s -> Made.fresh().scale(of, s, 0));
            Edges.taken("16 OFFSET of " + of, -9999, 9999, o -> Made.fresh().scale(of, 16, o));
            GuestLevels x = new GuestLevels();
            x.pass(77);
            Due.is("56 at first of " + of, x.clock(of), 77);
        }
        GuestLevels x = new GuestLevels();
        x.scale(1, 64, -9999);
        x.scale(2, 64, -9999);
        Due.is("56 the least of (1)", x.clock(1), -9999);
        Due.is("56 the least of (2)", x.clock(2), -49995);
        GuestLevels y = Made.late();
        y.pass(199);
        y.scale(1, 64, 9999);
        y.scale(2, 64, 9999);
        Due.is("56 the greatest of (1)", y.clock(1), 409995);
        Due.is("56 the greatest of (2)", y.clock(2), 1649979);
    }

    /** "TIMERS (12 at most)" */
    private static void timersAtMost() {
        GuestLevels x = new GuestLevels();
        Due.is("57 none at first", x.timed(-1, 0), 0);
        for (int i = 1; i <= 12; i++) Due.is("17 how many there are", x.timer(i % 3, 500 + i, i), i);
        Due.is("17 not a thirteenth", x.timer(0, 1, 1), -1);
        Due.is("57 twelve yet", x.timed(-1, 0), 12);
        Due.is("57 the twelfth", x.timed(11, 1), 512);
        Due.is("57 no thirteenth", x.timed(12, 1), -1000000000);
        Due.yes("18 one is gone", x.cancel(0));
        Due.is("17 then a twelfth", x.timer(0, 1, 1), 12);
        Due.is("22 it is due", x.pass(1), 1);
        Due.is("17 then a twelfth again", x.timer(0, 1, 1), 12);
    }

    /** "of a LEVEL 0 .. 2, a DEADLINE (-99999 .. 999999), a VECTOR" */
    private static void timersTold() {
        Edges.taken("17 LEVEL", 0, 2, level -> Made.fresh().timer(level, 5, 5) == 1);
        Edges.taken("17 DEADLINE", -99999, 999999, deadline -> Made.fresh().timer(0, deadline, 5) == 1);
        Edges.taken("17 VECTOR", 0, 15, vector -> Made.fresh().timer(0, 5, vector) == 1);
        GuestLevels x = new GuestLevels();
        x.scale(1, 64, 0);
        x.scale(2, 64, 0);
        x.timer(2, 999999, 0);
        x.timer(2, -99999, 15);
        Due.is("57 the greatest DEADLINE", x.timed(0, 1), 999999);
        Due.is("57 the least DEADLINE", x.timed(1, 1), -99999);
        Due.is("57 16 * 62500 is beyond 999999", x.timed(0, 3), 62500);
        Due.is("57 the least is due at once", x.timed(1, 3), 1);
    }

    /** "EXITS (the latest 24)" */
    private static void exitsWrittenDown() {
        GuestLevels x = new GuestLevels();
        Due.is("45 none at first", x.exit(-1, 0), 0);
        Made.exits(x, 24);
        Due.is("45 twenty-four", x.exit(-1, 0), 24);
        Due.is("45 the eldest is the first", x.exit(0, 2), 0);
        Due.is("45 the latest", x.exit(23, 2), 7);
        Due.is("45 no other", x.exit(24, 2), -2);
        Due.is("46 all of them", x.exits(5), 24);
        x.event(3);
        Due.is("45 no more than twenty-four", x.exit(-1, 0), 24);
        Due.is("45 the eldest is the second", x.exit(0, 2), 1);
        Due.is("45 the latest is the twenty-fifth", x.exit(23, 2), 3);
        Due.is("45 no twenty-fifth", x.exit(24, 2), -2);
        Due.is("46 of the latest alone", x.exits(5), 24);
    }

    /** "COUNTED by who saw them" */
    private static void exitsCounted() {
        GuestLevels x = new GuestLevels();
        Due.is("27 none the host saw at first", x.is(5), 0);
        Due.is("27 none was dealt at first", x.is(6), 0);
        Made.exits(x, 25);
        Due.is("27 more than are written down", x.is(5), 25);
        Due.is("27 none was dealt", x.is(6), 0);
        x.want(1, 1);
        for (int i = 1; i <= 25; i++) {
            x.enter();
            x.event(0);
        }
        Due.is("27 dealt", x.is(6), 25);
        Due.is("27 the host's yet", x.is(5), 25);
        Due.is("46 all written down are these", x.exits(4), 24);
    }

    /** "STORED: VALUES of OUTER PAGES (at first none)." */
    private static void stored() {
        for (int p = 0; p < 16; p++) Due.is("32 at first none", Made.fresh().stored(p), -1);
        GuestLevels x = new GuestLevels();
        for (int p = 0; p < 16; p++) x.touch(p, 1, 9999);
        for (int p = 0; p < 16; p++) Due.is("32 OUTER PAGE " + p, x.stored(p), p < 6 ? 9999 : -1);
        for (int p = 0; p < 6; p++) x.touch(p, 1, 0);
        Due.is("32 PAGE 15 isn't yet", x.stored(15), -1);
        for (int p = 6; p < 10; p++) x.touch(p, 1, 0);
        Due.is("32 PAGE 15 is", x.stored(15), 9999);
        for (int p = 10; p < 16; p++) x.touch(p, 1, 0);
        Due.is("32 the least VALUE", x.stored(0), 0);
    }

    /** "HANDLERS for REASONS 1, 4, 6, 8" */
    private static void handlers() {
        for (int reason = -1; reason <= 11; reason++) {
            boolean has = reason == 1 || reason == 4 || reason == 6 || reason == 8;
            GuestLevels x = new GuestLevels();
            Due.is("31 at first none for " + reason, x.handled(reason), -1);
            Due.is("19 REASON " + reason, x.handler(reason, 2) ? 1 : 0, has ? 1 : 0);
            Due.is("31 REASON " + reason, x.handled(reason), has ? 2 : -1);
            Due.is("70 a STEP if it is told, REASON " + reason, x.steps(), has ? 1 : 0);
        }
        Due.no("19 REASON far below", Made.fresh().handler(Integer.MIN_VALUE, 2));
        Due.no("19 REASON far above", Made.fresh().handler(Integer.MAX_VALUE, 2));
    }

    /** "a PLACE 0 .. 23 (at first none)" */
    private static void handlerPlaces() {
        for (int reason : new int[] {1, 4, 6, 8}) {
            Edges.taken("19 PLACE, or NONE, for " + reason, -1, 23, place -> Made.fresh().handler(reason, place));
            GuestLevels x = new GuestLevels();
            x.handler(reason, 0);
            Due.is("31 the least PLACE", x.handled(reason), 0);
            x.handler(reason, 23);
            Due.is("31 the greatest PLACE", x.handled(reason), 23);
            x.handler(reason, 24);
            Due.is("31 it stays", x.handled(reason), 23);
            x.handler(reason, -1);
            Due.is("31 none any more", x.handled(reason), -1);
        }
    }

    /** "SLICE 0 .. 99 (at first 0)" */
    private static void slice() {
        Due.is("27 SLICE at first", Made.fresh().is(13), 0);
        Edges.taken("20 SLICE", 0, 99, s -> Made.fresh().slice(s));
        GuestLevels x = new GuestLevels();
        x.slice(99);
        Due.is("27 the greatest SLICE", x.is(13), 99);
        x.slice(100);
        Due.is("27 it stays", x.is(13), 99);
        x.slice(0);
        Due.is("27 the least SLICE", x.is(13), 0);
    }

    /** "LEFT of it" */
    private static void left() {
        GuestLevels x = new GuestLevels();
        Due.is("27 LEFT at first", x.is(14), 0);
        x.slice(99);
        Due.is("27 LEFT isn't told by SLICE", x.is(14), 0);
        x.enter();
        Due.is("27 LEFT", x.is(14), 99);
        x.pass(98);
        Due.is("27 one is LEFT", x.is(14), 1);
        x.pass(1);
        Due.is("27 none is LEFT", x.is(14), 0);
    }

    /** "HEARD: VALUES that the inner guest READ or RAN (the latest 24)." */
    private static void heard() {
        GuestLevels x = Made.straight(1);
        Due.is("36 none at first", x.heard(-1), 0);
        Due.is("36 not the first", x.heard(0), -1);
        for (int i = 0; i < 24; i++) {
            x.touch(0, 1, 100 + i);
            x.touch(0, 2 * (i % 2), 0);
        }
        Due.is("36 twenty-four", x.heard(-1), 24);
        Due.is("36 the eldest is the first", x.heard(0), 100);
        Due.is("36 the latest", x.heard(23), 123);
        Due.is("36 no other", x.heard(24), -1);
        x.touch(0, 1, 9999);
        Due.is("36 WRITE isn't HEARD", x.heard(23), 123);
        x.touch(0, 2, 0);
        Due.is("36 no more than twenty-four", x.heard(-1), 24);
        Due.is("36 the eldest is the second", x.heard(0), 101);
        Due.is("36 the latest is the twenty-fifth", x.heard(23), 9999);
        Due.is("36 no twenty-fifth", x.heard(24), -1);
    }

    /** "CHANGED: FRAMES (at first none)." */
    private static void changed() {
        GuestLevels x = new GuestLevels();
        Due.is("37 at first none", x.changed(), 0);
        Due.is("21 none to forget", x.forget(), 0);
        for (int p = 0; p < 10; p++) {
            x.touch(p, 0, 0);
            Due.is("37 GIVEN", x.changed(), (2 << p) - 1);
        }
        Due.is("21 all ten", x.forget(), 10);
        Due.is("37 none any more", x.changed(), 0);
    }

    /** "COPIED ONES: ENTRIES of TABLE 2 (at first none)." */
    private static void copied() {
        Due.is("34 at first none", Made.fresh().copied(), 0);
        GuestLevels x = new GuestLevels();
        for (int p = 0; p < 16; p++) x.entry(2, p, p % 10, 7);
        for (int p = 0; p < 10; p++) x.touch(p, 1, 5);
        Due.is("6 nine FRAMES", x.join(), 9);
        Due.is("34 all sixteen", x.copied(), 65535);
    }

    /** "TRAP PLACE of PROGRAM (2): 0 .. 23 (at first none)" */
    private static void trapPlace() {
        Edges.taken("7 PLACE, or NONE", -1, 23, place -> Made.fresh().trapPlace(place));
        GuestLevels x = new GuestLevels();
        Due.is("35 at first none", x.trapped(2), -1);
        x.trapPlace(0);
        Due.is("35 the least", x.trapped(2), 0);
        x.trapPlace(23);
        Due.is("35 the greatest", x.trapped(2), 23);
        x.trapPlace(24);
        x.trapPlace(-2);
        Due.is("35 it stays", x.trapped(2), 23);
        x.trapPlace(-1);
        Due.is("35 none any more", x.trapped(2), -1);
    }

    /** "TRAPPED: a VIRTUAL PAGE, a PLACE (at first none of either)." */
    private static void trapped() {
        Due.is("35 no VIRTUAL PAGE at first", Made.fresh().trapped(0), -1);
        Due.is("35 no PLACE at first", Made.fresh().trapped(1), -1);
        GuestLevels x = Made.entered();
        x.touch(15, 0, 0);
        Due.is("35 the greatest VIRTUAL PAGE", x.trapped(0), 15);
        x.touch(0, 0, 0);
        Due.is("35 the least VIRTUAL PAGE", x.trapped(0), 0);
        for (int i = 0; i < 24; i++) x.act(2, 0, i % 16, 0);
        x.run(1);
        Due.is("35 the least PLACE", x.trapped(1), 0);
        x.run(23);
        Due.is("35 the greatest PLACE", x.trapped(1), 23);
        Due.is("35 its VIRTUAL PAGE", x.trapped(0), 7);
    }

    /** "There are three inner guests 0 .. 2, one of them IN HAND (at first 0)" */
    private static void innerGuests() {
        Due.is("27 IN HAND at first", Made.fresh().is(17), 0);
        Due.no("15 IN HAND already", Made.fresh().hand(0));
        Edges.taken("15 another inner guest", 1, 2, guest -> Made.fresh().hand(guest));
        GuestLevels x = new GuestLevels();
        x.hand(2);
        Due.is("27 the greatest", x.is(17), 2);
        Edges.taken("15 another inner guest, 2 being IN HAND", 0, 1, guest -> {
            GuestLevels y = new GuestLevels();
            y.hand(2);
            return y.hand(guest);
        });
        x.hand(0);
        Due.is("27 the least", x.is(17), 0);
    }
}
