/** Promises 1 to 26: what each takes at its bounds, and what it answers if it can't be now, and for others. */
public final class TellingEdgesTest {
    private TellingEdgesTest() {
    }

    public static void main(String[] args) {
        newObject();
        newImage();
        entry();
        entryCantBeNow();
        entryOthersLeaveAllAsItIs();
        clear();
        clearHasNone();
        clearCantBeNow();
        room();
        foldAhead();
        join();
        trapPlace();
        want();
        wantInLevel2();
        touch();
        touchAnswers();
        touchOthers();
        event();
        enter();
        send();
        sendIsSo();
        open();
        finish();
        hand();
        handInLevel2();
        scale();
        timer();
        cancel();
        handler();
        slice();
        forget();
        pass();
        passAtTheEnd();
        passCounts();
        act();
        wipe();
        run();
        runAtTheEnd();
        undo();
        Due.end();
    }

    /** 1: "No ENTRIES, LEVEL 1" */
    private static void newObject() {
        GuestLevels x = new GuestLevels();
        Due.is("1 NONE", GuestLevels.NONE, -1);
        Due.is("1 LEVEL", x.is(0), 1);
        Due.is("1 nothing is FOLDED", x.is(3), 0);
        Due.is("1 all FRAMES are FREE", x.is(4), 10);
        for (int table = 0; table < 4; table++) {
            for (int page = 0; page < 16; page++) Due.is("1 no ENTRIES", x.told(table, page, 0), -1);
        }
        Due.is("1 no ENTRY of TABLE 2", x.backed(0), -1);
    }

    /** 1: "THE IMAGE is this" */
    private static void newImage() {
        GuestLevels x = new GuestLevels();
        Due.is("1 back at once", x.back(), 0);
        x.pass(200);
        x.entry(2, 0, 0, 7);
        x.enter();
        x.entry(0, 15, 15, 7);
        Due.is("1 back to the new object", x.back(), 0);
        Due.is("1 its LEVEL", x.is(0), 1);
        Due.is("1 its TABLE 0", x.told(0, 15, 0), -1);
        Due.is("1 its TABLE 2", x.told(2, 0, 0), -1);
        GuestLevels y = new GuestLevels();
        y.pass(3);
        new GuestLevels().pass(9);
        Due.is("1 each object its own", y.is(1), 3);
    }

    /** 2: "An ENTRY of a TABLE is told: true." */
    private static void entry() {
        GuestLevels x = new GuestLevels();
        Due.yes("2 least of TABLE 1", x.entry(1, 0, 0, 1));
        Due.yes("2 greatest of TABLE 1", x.entry(1, 15, 15, 7));
        Due.yes("2 least of TABLE 2", x.entry(2, 0, 0, 1));
        Due.yes("2 greatest of TABLE 2", x.entry(2, 15, 9, 7));
        x.enter();
        Due.yes("2 least of TABLE 0", x.entry(0, 0, 0, 1));
        Due.yes("2 greatest of TABLE 0", x.entry(0, 15, 15, 7));
        int[][] due = {{15, 7}, {15, 7}, {9, 7}};
        for (int table = 0; table < 3; table++) {
            Due.is("2 to the least, TABLE " + table, x.told(table, 0, 0), 0);
            Due.is("2 the least RIGHTS, TABLE " + table, x.told(table, 0, 1), 1);
            Due.is("2 to the greatest, TABLE " + table, x.told(table, 15, 0), due[table][0]);
            Due.is("2 the greatest RIGHTS, TABLE " + table, x.told(table, 15, 1), due[table][1]);
        }
        Due.yes("2 told again", x.entry(0, 15, 3, 4));
        Due.is("2 leads elsewhere", x.told(0, 15, 0), 3);
        Due.is("2 with other RIGHTS", x.told(0, 15, 1), 4);
    }

    /** 2: "False, if it can't be now" */
    private static void entryCantBeNow() {
        Due.no("2 TABLE 0 in LEVEL 1", Made.fresh().entry(0, 0, 0, 7));
        Due.no("2 TABLE 1 in LEVEL 2", Made.entered().entry(1, 0, 0, 7));
        GuestLevels x = Made.entered();
        x.entry(1, 0, 0, 7);
        Due.is("2 nothing is told", x.told(1, 0, 0), -1);
        Due.is("2 no STEP", x.steps(), 1);
    }

    /** 2: "False .. for others (PAGE, where it leads, RIGHTS 1 .. 7)" */
    private static void entryOthersLeaveAllAsItIs() {
        for (int table = 0; table < 3; table++) {
            int of = table;
            int most = table == 2 ? 9 : 15;
            GuestLevels x = Made.straight(16);
            if (table == 1) Made.leave(x);
            int steps = x.steps();
            Edges.others("2 PAGE of TABLE " + of, 0, 15, 0, p -> x.entry(of, p, 0, 7) ? 1 : 0);
            Edges.others("2 where it leads, TABLE " + of, 0, most, 0, to -> x.entry(of, 3, to, 7) ? 1 : 0);
            Edges.others("2 RIGHTS of TABLE " + of, 1, 7, 0, r -> x.entry(of, 3, 5, r) ? 1 : 0);
            Due.is("2 it leads where it led", x.told(of, 3, 0), 3);
            Due.is("2 its RIGHTS", x.told(of, 3, 1), 7);
            Due.is("2 no STEP", x.steps(), steps);
        }
        Edges.others("2 TABLE", 0, 2, 0, table -> Made.entered().entry(table, 3, 3, 7) ? 1 : 0);
        Due.is("2 FOLDED is not told", Made.entered().entry(3, 0, 0, 7) ? 1 : 0, 0);
    }

    /** 3: "A TABLE has no ENTRY of a PAGE then: true." */
    private static void clear() {
        for (int table = 0; table < 3; table++) {
            for (int page = 0; page < 16; page += 15) {
                GuestLevels x = Made.straight(16);
                if (table == 1) Made.leave(x);
                Due.yes("3 TABLE " + table + ", PAGE " + page, x.clear(table, page));
                Due.is("3 none then", x.told(table, page, 0), -1);
                Due.is("3 no RIGHTS then", x.told(table, page, 1), -1);
                Due.is("3 another PAGE stays", x.told(table, 7, 0), 7);
                x.undo();
                Due.is("3 taken back", x.told(table, page, 1), 7);
            }
        }
    }

    /** 3: "False, if it has none .. and for others" */
    private static void clearHasNone() {
        for (int table = 0; table < 3; table++) {
            int of = table;
            GuestLevels x = Made.straight(15);
            if (table == 1) Made.leave(x);
            int steps = x.steps();
            Due.no("3 TABLE " + table + " has none", x.clear(table, 15));
            Edges.others("3 PAGE of TABLE " + of, 0, 15, 0, p -> x.clear(of, p) ? 1 : 0);
            Due.is("3 no STEP", x.steps(), steps);
            x.clear(table, 0);
            Due.no("3 TABLE " + table + " has none any more", x.clear(table, 0));
        }
        GuestLevels y = Made.straight(1);
        y.touch(0, 0, 0);
        Edges.others("3 TABLE", 0, 2, 0, table -> y.clear(table, 0) ? 1 : 0);
        Due.is("3 FOLDED stays", y.told(3, 0, 0), 0);
    }

    /** 3: "can't be now" */
    private static void clearCantBeNow() {
        GuestLevels x = Made.straight(1);
        Due.no("3 TABLE 1 in LEVEL 2", x.clear(1, 0));
        Made.leave(x);
        Due.no("3 TABLE 0 in LEVEL 1", x.clear(0, 0));
        Due.is("3 TABLE 0 has it yet", x.told(0, 0, 0), 0);
        Due.is("3 TABLE 1 has it yet", x.told(1, 0, 0), 0);
    }

    /** 4: "ROOM: true. False for others." */
    private static void room() {
        Edges.taken("4 ROOM", 1, 16, r -> Made.fresh().room(r));
        GuestLevels x = new GuestLevels();
        x.room(16);
        Due.is("4 the greatest", x.is(2), 16);
        x.room(17);
        x.room(0);
        Due.is("4 it stays", x.is(2), 16);
        Due.is("4 one STEP", x.steps(), 1);
        x.room(1);
        Due.is("4 the least", x.is(2), 1);
        Due.yes("4 in LEVEL 2, too", Made.entered().room(1));
    }

    /** 5: "how many were" */
    private static void foldAhead() {
        Due.is("5 none", Made.fresh().foldAhead(), 0);
        Due.is("5 none in LEVEL 2", Made.entered().foldAhead(), 0);
        Due.is("5 one", Made.straight(1).foldAhead(), 1);
        Due.is("5 six, ROOM at first", Made.straight(16).foldAhead(), 6);
        GuestLevels x = Made.straight(16);
        x.room(16);
        Due.is("5 sixteen", x.foldAhead(), 16);
        Due.is("5 none any more", x.foldAhead(), 0);
    }

    /** 6: "how many FRAMES came to be FREE" */
    private static void join() {
        Due.is("6 none", Made.fresh().join(), 0);
        for (int n = 1; n <= 10; n++) {
            GuestLevels x = new GuestLevels();
            for (int p = 0; p < n; p++) x.touch(p, 0, 0);
            Due.is("6 all but one of " + n, x.join(), n - 1);
            Due.is("6 FREE then", x.is(4), 9);
            Due.is("6 none any more", x.join(), 0);
        }
    }

    /** 7: "TRAP PLACE (NONE: none): true. False for others." */
    private static void trapPlace() {
        Edges.taken("7 PLACE, or NONE", -1, 23, p -> Made.fresh().trapPlace(p));
        Edges.taken("7 PLACE in LEVEL 2", -1, 23, p -> Made.entered().trapPlace(p));
        GuestLevels x = new GuestLevels();
        x.trapPlace(23);
        x.trapPlace(24);
        Due.is("7 it stays", x.trapped(2), 23);
        Due.is("7 one STEP", x.steps(), 1);
    }

    /** 8: "WANTED by the host (0), by the outer guest (1; in LEVEL 1 alone): true. False for others (0 .. 255)." */
    private static void want() {
        for (int by = 0; by < 2; by++) {
            int who = by;
            Edges.taken("8 EVENTS, by " + by, 0, 255, e -> Made.fresh().want(who, e));
            GuestLevels x = new GuestLevels();
            x.want(by, 255);
            Due.is("8 all of them, by " + by, x.wanted(by), 255);
            Due.is("8 not by the other one", x.wanted(1 - by), 0);
            x.want(by, 256);
            x.want(by, -1);
            Due.is("8 they stay", x.wanted(by), 255);
            Due.is("8 one STEP", x.steps(), 1);
            x.want(by, 0);
            Due.is("8 none of them", x.wanted(by), 0);
        }
        Edges.taken("8 by", 0, 1, by -> Made.fresh().want(by, 0));
    }

    private static void wantInLevel2() {
        GuestLevels x = Made.entered();
        Due.no("8 by the outer guest in LEVEL 2", x.want(1, 1));
        Due.is("8 nothing is told", x.wanted(1), 0);
        Due.is("8 no STEP", x.steps(), 1);
        Due.yes("8 by the host in LEVEL 2", x.want(0, 1));
    }

    /** 9: "TOUCHED by the LEVEL at hand (VALUE 0 .. 9999 for WRITE)" */
    private static void touch() {
        for (int level = 1; level <= 2; level++) {
            GuestLevels x = Made.straight(16);
            if (level == 1) Made.leave(x);
            String what = " in LEVEL " + level;
            Due.is("9 the least VALUE" + what, x.touch(9, 1, 0), 0);
            Due.is("9 it is READ" + what, x.touch(9, 0, 0), 0);
            Due.is("9 the greatest VALUE" + what, x.touch(9, 1, 9999), 9999);
            Due.is("9 it is READ" + what, x.touch(9, 0, 0), 9999);
            Due.is("9 it is RUN" + what, x.touch(9, 2, 0), 9999);
            Edges.others("9 VALUE" + what, 0, 9999, -1, v -> x.touch(9, 1, v));
            Due.is("9 it stays" + what, x.frame(9), 9999);
            Due.is("9 VALUE isn't looked at for READ" + what, x.touch(9, 0, 10000), 9999);
            Due.is("9 nor for RUN" + what, x.touch(9, 2, -1), 9999);
        }
    }

    /** 9: "the VALUE at the FRAME then. -2: it TRAPS. -3: dealt to the outer guest. -4: TABLE 2 gives not that RIGHT." */
    private static void touchAnswers() {
        for (int way = 0; way < 3; way++) {
            int but = 7 - (1 << way);
            Due.is("9 the VALUE", Made.led(7, 7, 7).touch(3, way, 5), way == 1 ? 5 : 44);
            Due.is("9 -2, no ENTRY", Made.led(0, 7, 7).touch(3, way, 5), -2);
            Due.is("9 -2, not that RIGHT", Made.led(but, 7, 7).touch(3, way, 5), -2);
            Due.is("9 -3, no ENTRY", Made.led(7, 0, 7).touch(3, way, 5), -3);
            Due.is("9 -3, not that RIGHT", Made.led(7, but, 7).touch(3, way, 5), -3);
            Due.is("9 GIVEN, no ENTRY", Made.led(7, 7, 0).touch(3, way, 5), way == 1 ? 5 : 0);
            Due.is("9 -4, not that RIGHT", Made.led(7, 7, but).touch(3, way, 5), -4);
            GuestLevels x = new GuestLevels();
            x.entry(2, 0, 4, but);
            Due.is("9 -4, by the outer guest", x.touch(0, way, 5), -4);
        }
    }

    /** 9: "NONE for others." */
    private static void touchOthers() {
        for (int level = 1; level <= 2; level++) {
            GuestLevels x = Made.straight(1);
            if (level == 1) Made.leave(x);
            int steps = x.steps();
            int exits = x.exit(-1, 0);
            Edges.others("9 PAGE in LEVEL " + level, 0, 15, -1, p -> x.touch(p, 0, 0));
            Edges.others("9 PAGE, WRITE in LEVEL " + level, 0, 15, -1, p -> x.touch(p, 1, 0));
            Edges.others("9 WAY in LEVEL " + level, 0, 2, -1, way -> x.touch(0, way, 0));
            Due.is("9 no STEP", x.steps(), steps);
            Due.is("9 no EXIT", x.exit(-1, 0), exits);
            Due.is("9 no TRAP", x.is(7), 0);
        }
    }

    /** 10: "who saw it (0 .., 1 .., 2 ..). NONE for others." */
    private static void event() {
        for (int level = 1; level <= 2; level++) {
            GuestLevels x = level == 1 ? new GuestLevels() : Made.entered();
            int steps = x.steps();
            x.want(0, 255);
            Edges.others("10 EVENT in LEVEL " + level, 0, 7, -1, e -> x.event(e));
            Due.is("10 no STEP", x.steps(), steps + 1);
            Due.is("10 no EXIT", x.exit(-1, 0), 0);
            Due.is("10 the least", x.event(0), 0);
            Due.is("10 the greatest", x.event(7), 0);
        }
        GuestLevels y = new GuestLevels();
        y.want(1, 255);
        Due.is("10 the outer guest its own, though it wants it", y.event(7), 2);
        y.enter();
        Due.is("10 the inner one's, dealt", y.event(7), 1);
    }

    /** 11: "ENTERED: true. False in LEVEL 2." */
    private static void enter() {
        GuestLevels x = new GuestLevels();
        Due.yes("11 in LEVEL 1", x.enter());
        Due.no("11 in LEVEL 2", x.enter());
        Due.is("11 one STEP", x.steps(), 1);
        x.slice(5);
        x.undo();
        x.undo();
        x.slice(5);
        x.enter();
        x.pass(2);
        x.enter();
        Due.is("11 LEFT isn't told by what is refused", x.is(14), 3);
    }

    /** 12: "A VECTOR is PENDING (1 .., 2 ..): true. False .. for others." */
    private static void send() {
        Edges.taken("12 guest", 1, 2, guest -> Made.fresh().send(guest, 0));
        for (int guest = 1; guest <= 2; guest++) {
            int of = guest;
            GuestLevels x = new GuestLevels();
            Due.yes("12 the least", x.send(guest, 0));
            Due.yes("12 the greatest", x.send(guest, 15));
            Edges.others("12 VECTOR of " + guest, 0, 15, 0, v -> x.send(of, v) ? 1 : 0);
            Due.is("12 those two", x.pending(guest), 32769);
            Due.is("12 not of the other one", x.pending(3 - guest), 0);
            Due.is("12 two STEPS", x.steps(), 2);
        }
    }

    /** 12: "False, if it is so, can't be now" */
    private static void sendIsSo() {
        GuestLevels x = new GuestLevels();
        x.send(1, 15);
        x.pass(4);
        Due.no("12 it is so", x.send(1, 15));
        Due.is("12 since it came to be so", x.pendingFor(1, 15), 4);
        Due.yes("12 of the other guest", x.send(2, 15));
        x.open(1, true);
        Due.yes("12 IN SERVICE isn't PENDING", x.send(1, 15));
        Due.no("12 but now it is", x.send(1, 15));
        x.enter();
        Due.no("12 of the inner guest in LEVEL 2", x.send(2, 0));
        Due.is("12 nothing is told", x.pending(2), 32768);
    }

    /** 13: "OPEN (1, 2): true. False for others." */
    private static void open() {
        Edges.taken("13 guest, true", 1, 2, guest -> Made.fresh().open(guest, true));
        Edges.taken("13 guest, false", 1, 2, guest -> Made.fresh().open(guest, false));
        Edges.taken("13 guest in LEVEL 2", 1, 2, guest -> Made.entered().open(guest, true));
        GuestLevels x = new GuestLevels();
        x.open(0, true);
        x.open(3, true);
        Due.no("13 not (1)", x.isOpen(1));
        Due.no("13 not (2)", x.isOpen(2));
        Due.is("13 no STEP", x.steps(), 0);
        Due.yes("13 as it is", x.open(1, false));
        Due.is("13 a STEP, too", x.steps(), 1);
    }

    /** 14: "ENDED by the LEVEL at hand: the VECTOR. NONE: none is IN SERVICE (no STEP)." */
    private static void finish() {
        for (int vector = 0; vector < 16; vector += 15) {
            GuestLevels x = new GuestLevels();
            Due.is("14 none", x.finish(), -1);
            Due.is("14 no STEP", x.steps(), 0);
            x.send(1, vector);
            Due.is("14 PENDING alone", x.finish(), -1);
            x.open(1, true);
            Due.is("14 the VECTOR", x.finish(), vector);
            Due.is("14 a STEP", x.steps(), 3);
            Due.is("14 none any more", x.finish(), -1);
            Due.is("14 no STEP any more", x.steps(), 3);
            GuestLevels y = new GuestLevels();
            y.send(2, vector);
            y.open(2, true);
            y.enter();
            Due.is("14 the inner one's", y.finish(), vector);
            Due.is("14 none of its", y.finish(), -1);
        }
    }

    /** 15: "SWITCHED: true. False for others (IN HAND already, LEVEL 2)." */
    private static void hand() {
        for (int now = 0; now < 3; now++) {
            GuestLevels x = new GuestLevels();
            if (now > 0) x.hand(now);
            int steps = x.steps();
            Due.no("15 IN HAND already: " + now, x.hand(now));
            Edges.others("15 inner guest", 0, 2, 0, guest -> x.hand(guest) ? 1 : 0);
            Due.is("15 it stays IN HAND", x.is(17), now);
            Due.is("15 no STEP", x.steps(), steps);
            Due.yes("15 the next one", x.hand((now + 1) % 3));
            Due.yes("15 and the one behind", x.hand((now + 2) % 3));
            Due.yes("15 and back", x.hand(now));
            Due.is("15 a STEP each", x.steps(), steps + 3);
        }
    }

    private static void handInLevel2() {
        GuestLevels x = Made.entered();
        for (int guest = 0; guest < 3; guest++) Due.no("15 in LEVEL 2: " + guest, x.hand(guest));
        Due.is("15 IN HAND", x.is(17), 0);
        Due.is("15 no STEP", x.steps(), 1);
    }

    /** 16: "SCALE and OFFSET of a guest (1, 2): true. False for others." */
    private static void scale() {
        Edges.taken("16 guest", 1, 2, guest -> Made.fresh().scale(guest, 16, 0));
        Edges.taken("16 guest in LEVEL 2", 1, 2, guest -> Made.entered().scale(guest, 16, 0));
        for (int guest = 1; guest <= 2; guest++) {
            int of = guest;
            GuestLevels x = new GuestLevels();
            x.pass(100);
            Due.yes("16 the greatest", x.scale(guest, 64, 9999));
            Due.is("16 CLOCK", x.clock(guest), 10399);
            Edges.others("16 SCALE of " + guest, 1, 64, 0, s -> x.scale(of, s, 0) ? 1 : 0);
            Edges.others("16 OFFSET of " + guest, -9999, 9999, 0, o -> x.scale(of, 1, o) ? 1 : 0);
            Due.is("16 CLOCK stays", x.clock(guest), 10399);
            Due.yes("16 the least", x.scale(guest, 1, -9999));
            Due.is("16 CLOCK", x.clock(guest), 6 - 9999);
            Due.is("16 STEPS", x.steps(), 3);
        }
    }

    /** 17: "A TIMER: how many there are. NONE for others." */
    private static void timer() {
        GuestLevels x = new GuestLevels();
        Edges.others("17 LEVEL", 0, 2, -1, level -> x.timer(level, 0, 0));
        Edges.others("17 DEADLINE", -99999, 999999, -1, deadline -> x.timer(0, deadline, 0));
        Edges.others("17 VECTOR", 0, 15, -1, vector -> x.timer(0, 0, vector));
        Due.is("17 none is told", x.timed(-1, 0), 0);
        Due.is("17 no STEP", x.steps(), 0);
        Due.is("17 the least of all", x.timer(0, -99999, 0), 1);
        Due.is("17 the greatest of all", x.timer(2, 999999, 15), 2);
        for (int i = 3; i <= 12; i++) Due.is("17 alike", x.timer(2, 999999, 15), i);
        Due.is("17 the thirteenth", x.timer(2, 999999, 15), -1);
        Due.is("17 twelve STEPS", x.steps(), 12);
    }

    /** 18: "The i-th TIMER (in the order told) is gone: true. False for others." */
    private static void cancel() {
        Due.no("18 there is none", Made.fresh().cancel(0));
        for (int n = 1; n <= 12; n++) {
            for (int i : new int[] {0, n / 2, n - 1}) {
                GuestLevels x = new GuestLevels();
                for (int t = 0; t < n; t++) x.timer(0, 100 + t, t);
                int steps = x.steps();
                Edges.others("18 i of " + n, 0, n - 1, 0, other -> x.cancel(other) ? 1 : 0);
                Due.is("18 no STEP", x.steps(), steps);
                Due.yes("18 " + i + " of " + n, x.cancel(i));
                Due.is("18 one fewer", x.timed(-1, 0), n - 1);
                for (int t = 0; t < n - 1; t++) Due.is("18 in the order told", x.timed(t, 2), t < i ? t : t + 1);
                Due.is("18 no other", x.timed(n - 1, 2), -1000000000);
            }
        }
    }

    /** 19: "The HANDLER for a REASON (1, 4, 6, 8) is a PLACE (NONE: none): true. False for others." */
    private static void handler() {
        for (int reason = 0; reason <= 9; reason++) {
            int of = reason;
            boolean has = reason == 1 || reason == 4 || reason == 6 || reason == 8;
            if (has) {
                Edges.taken("19 PLACE for " + reason, -1, 23, p -> Made.fresh().handler(of, p));
            } else {
                for (int p = -1; p < 24; p++) Due.no("19 REASON " + reason, Made.fresh().handler(reason, p));
            }
        }
        Edges.others("19 REASON", 1, 8, 0, reason -> Made.fresh().handler(reason, 0) ? 1 : 0);
        GuestLevels x = new GuestLevels();
        x.handler(8, 23);
        x.handler(8, 24);
        x.handler(8, -2);
        Due.is("19 it stays", x.handled(8), 23);
        Due.is("19 one STEP", x.steps(), 1);
    }

    /** 20: "SLICE: true. False for others." */
    private static void slice() {
        Edges.taken("20 SLICE", 0, 99, s -> Made.fresh().slice(s));
        Edges.taken("20 SLICE in LEVEL 2", 0, 99, s -> Made.entered().slice(s));
        GuestLevels x = new GuestLevels();
        x.slice(99);
        x.slice(100);
        x.slice(-1);
        Due.is("20 it stays", x.is(13), 99);
        Due.is("20 one STEP", x.steps(), 1);
    }

    /** 21: "CHANGED is forgotten: how many there were." */
    private static void forget() {
        for (int n = 0; n <= 10; n++) {
            GuestLevels x = new GuestLevels();
            for (int p = 0; p < n; p++) x.touch(p, 1, 1);
            Due.is("21 " + n, x.forget(), n);
            Due.is("21 none any more", x.changed(), 0);
            Due.is("21 none to forget", x.forget(), 0);
            Due.is("21 VALUES stay", x.frame(0), n > 0 ? 1 : 0);
        }
    }

    /** 22: "TIME passes, n (1 .. 200) .. NONE for others" */
    private static void pass() {
        Edges.taken("22 n", 1, 200, n -> Made.fresh().pass(n) == 0);
        GuestLevels x = new GuestLevels();
        x.pass(0);
        x.pass(201);
        Due.is("22 TIME stays", x.is(1), 0);
        Due.is("22 no STEP", x.steps(), 0);
        x.pass(1);
        Due.is("22 the least", x.is(1), 1);
        x.pass(200);
        Due.is("22 the greatest", x.is(1), 201);
        Due.is("22 two STEPS", x.steps(), 2);
    }

    /** 22: "or if TIME would be above 99999" */
    private static void passAtTheEnd() {
        GuestLevels x = Made.late();
        Due.is("22 99800 and 200", x.pass(200), -1);
        Due.is("22 TIME stays", x.is(1), 99800);
        Due.is("22 99800 and 199", x.pass(199), 0);
        Due.is("22 TIME", x.is(1), 99999);
        Due.is("22 99999 and 1", x.pass(1), -1);
        Due.is("22 TIME stays", x.is(1), 99999);
        Due.is("22 undo", x.undo(), 19);
        Due.is("22 99800 and 198", x.pass(198), 0);
        Due.is("22 99998 and 2", x.pass(2), -1);
        Due.is("22 99998 and 1", x.pass(1), 0);
    }

    /** 22: "DEALT OUT each time: how many TIMERS were due" */
    private static void passCounts() {
        GuestLevels x = new GuestLevels();
        for (int i = 0; i < 12; i++) x.timer(i % 3, 1 + i / 6, i);
        Due.is("22 six at once", x.pass(1), 6);
        Due.is("22 six more", x.pass(1), 6);
        Due.is("22 none", x.pass(200), 0);
        GuestLevels y = new GuestLevels();
        for (int i = 0; i < 12; i++) y.timer(0, -99999, i);
        Due.is("22 all twelve", y.pass(1), 12);
        GuestLevels z = new GuestLevels();
        z.timer(1, 200, 1);
        z.timer(1, 201, 1);
        Due.is("22 the last of 200", z.pass(200), 1);
        Due.is("22 the one behind", z.pass(1), 1);
    }

    /** 23: "An ACT comes to a PROGRAM (1, 2): how many it has. NONE for others." */
    private static void act() {
        Edges.taken("23 guest", 1, 2, guest -> Made.fresh().act(guest, 4, 0, 0) == 1);
        Edges.taken("23 guest in LEVEL 2", 1, 2, guest -> Made.entered().act(guest, 4, 0, 0) == 1);
        for (int guest = 1; guest <= 2; guest++) {
            GuestLevels x = new GuestLevels();
            x.act(guest, 12, 0, 0);
            x.act(guest, -1, 0, 0);
            x.act(guest, 0, 16, 0);
            x.act(guest, 0, 0, 1);
            Due.is("23 none came", x.program(guest, -1, 0), 0);
            Due.is("23 no STEP", x.steps(), 0);
            for (int i = 1; i <= 24; i++) Due.is("23 how many", x.act(guest, 4, 0, 0), i);
            Due.is("23 the twenty-fifth", x.act(guest, 4, 0, 0), -1);
            Due.is("23 of the other one none", x.program(3 - guest, -1, 0), 0);
        }
    }

    /** 24: "A PROGRAM is wiped: how many ACTS it had. NONE for others." */
    private static void wipe() {
        Edges.taken("24 guest", 1, 2, guest -> Made.fresh().wipe(guest) == 0);
        for (int guest = 1; guest <= 2; guest++) {
            for (int n : new int[] {0, 1, 24}) {
                GuestLevels x = new GuestLevels();
                for (int i = 0; i < n; i++) x.act(guest, 4, 0, 0);
                x.wipe(0);
                x.wipe(3);
                Due.is("24 " + n + " yet", x.program(guest, -1, 0), n);
                Due.is("24 " + n, x.wipe(guest), n);
                Due.is("24 none", x.program(guest, -1, 0), 0);
                Due.is("24 none to wipe", x.wipe(guest), 0);
            }
        }
    }

    /** 25: "GONE, n (1 .. 200): how many EXITS there were. NONE for others" */
    private static void run() {
        Edges.taken("25 n", 1, 200, n -> Made.fresh().run(n) == 0);
        GuestLevels x = new GuestLevels();
        x.run(0);
        x.run(201);
        Due.is("25 TIME stays", x.is(1), 0);
        Due.is("25 no STEP", x.steps(), 0);
        x.want(0, 255);
        x.act(1, 3, 7, 0);
        Due.is("25 no EXITS of ahead", x.run(1), 1);
        Due.is("25 more than are written down", x.run(200), 200);
        x.want(0, 0);
        Due.is("25 none", x.run(200), 0);
    }

    /** 25: "or if TIME would be above 99999" */
    private static void runAtTheEnd() {
        GuestLevels x = Made.late();
        Due.is("25 99800 and 200", x.run(200), -1);
        Due.is("25 TIME stays", x.is(1), 99800);
        Due.is("25 99800 and 199", x.run(199), 0);
        Due.is("25 TIME", x.is(1), 99999);
        Due.is("25 99999 and 1", x.run(1), -1);
        Due.is("25 TIME stays", x.is(1), 99999);
        x.undo();
        Due.is("25 99800 and 198", x.run(198), 0);
        Due.is("25 99998 and 2", x.run(2), -1);
        Due.is("25 99998 and 1", x.run(1), 0);
    }

    /** 26: "The latest STEP is taken back: how many can be yet. NONE: there is none." */
    private static void undo() {
        GuestLevels x = new GuestLevels();
        Due.is("26 there is none", x.undo(), -1);
        x.pass(1);
        Due.is("26 the only one", x.undo(), 0);
        Due.is("26 TIME", x.is(1), 0);
        Due.is("26 there is none any more", x.undo(), -1);
        for (int i = 0; i < 41; i++) x.pass(1);
        Due.is("26 nineteen yet", x.undo(), 19);
        Due.is("26 TIME", x.is(1), 40);
        x.pass(5);
        Due.is("26 nineteen again", x.undo(), 19);
        Due.is("26 TIME", x.is(1), 40);
        for (int i = 18; i >= 0; i--) Due.is("26 one after the other", x.undo(), i);
        Due.is("26 TIME of the twentieth", x.is(1), 21);
        Due.is("26 no twenty-first", x.undo(), -1);
        x.pass(7);
        Due.is("26 again one", x.undo(), 0);
        Due.is("26 TIME stays", x.is(1), 21);
    }
}
