/** Promises 27 to 59: what is answered at the bounds, if there is none such, and for others. */
public final class AskingEdgesTest {
    private AskingEdgesTest() {
    }

    public static void main(String[] args) {
        is();
        isAtFirst();
        isTrapped();
        isSwapped();
        isTaken();
        told();
        toldNone();
        folded();
        frame();
        handled();
        stored();
        backed();
        copied();
        trapped();
        heard();
        changed();
        walk();
        walkStopsAtTheFirst();
        given();
        lazy();
        aliases();
        free();
        wanted();
        whose();
        exit();
        exitNoneSuch();
        exits();
        exitsOfEachReason();
        pending();
        service();
        putBy();
        spent();
        seenOf();
        isOpen();
        taken();
        longest();
        pendingFor();
        clock();
        timed();
        timedDue();
        timedDueAtTheEnd();
        first();
        firstInOrder();
        program();
        Due.end();
    }

    /** 27: "0 LEVEL, .. 17 who is IN HAND. NONE for others." */
    private static void is() {
        GuestLevels x = new GuestLevels();
        x.want(1, 1);
        x.enter();
        x.event(0);
        Edges.taken("27 what", 0, 17, what -> x.is(what) != -1);
        for (int what = 0; what < 18; what++) Due.yes("27 what " + what, x.is(what) != -1);
    }

    /** 27: each at first */
    private static void isAtFirst() {
        int[] due = {1, 0, 6, 0, 10, 0, 0, 0, 0, 0, 0, 0, 0, 0, 0, -1, -1, 0};
        GuestLevels x = new GuestLevels();
        for (int what = 0; what < 18; what++) Due.is("27 at first " + what, x.is(what), due[what]);
        Due.is("27 what 18", x.is(18), -1);
        Due.is("27 what -1", x.is(-1), -1);
    }

    /** 27: "7 how often the inner guest TRAPPED and nobody wanted it" */
    private static void isTrapped() {
        GuestLevels x = Made.entered();
        for (int i = 1; i <= 30; i++) {
            x.touch(i % 16, i % 3, 0);
            Due.is("27 TRAPPED", x.is(7), i);
        }
        x.event(0);
        Due.is("27 an EVENT by hand is no TRAP", x.is(7), 30);
        x.want(0, 1);
        x.touch(0, 0, 0);
        Due.is("27 somebody wanted it", x.is(7), 30);
    }

    /** 27: "8 how often it was SWAPPED" */
    private static void isSwapped() {
        GuestLevels x = new GuestLevels();
        for (int i = 0; i < 32; i++) {
            x.touch(i % 16, 0, 0);
            Due.is("27 SWAPPED", x.is(8), i < 10 ? 0 : i - 9);
        }
    }

    /** 27: "9, 10 VECTORS that were TAKEN by the outer, the inner guest" */
    private static void isTaken() {
        GuestLevels x = new GuestLevels();
        x.open(1, true);
        for (int v = 0; v < 16; v++) {
            x.send(1, v);
            Due.is("27 by the outer guest", x.is(9), v + 1);
        }
        Due.is("27 by the inner one", x.is(10), 0);
    }

    /** 28: "Of an ENTRY of TABLES 0, 1, 2, of FOLDED (3): 0 where it leads, 1 its RIGHTS. NONE .. for others." */
    private static void told() {
        GuestLevels x = Made.led(3, 5, 7);
        x.touch(3, 0, 0);
        int[] pages = {3, 5, 2, 5};
        int[] to = {5, 2, 4, 4};
        int[] rights = {3, 5, 7, 5};
        for (int table = 0; table < 4; table++) {
            int of = table;
            Due.is("28 where it leads, TABLE " + table, x.told(table, pages[table], 0), to[table]);
            Due.is("28 its RIGHTS, TABLE " + table, x.told(table, pages[table], 1), rights[table]);
            Edges.taken("28 what, TABLE " + table, 0, 1, what -> x.told(of, pages[of], what) != -1);
            Edges.others("28 PAGE, TABLE " + table, 0, 15, -1, p -> x.told(of, p, 0));
        }
        Edges.others("28 TABLE", 0, 3, -1, table -> x.told(table, 5, 0));
    }

    /** 28: "NONE: there is none" */
    private static void toldNone() {
        GuestLevels x = Made.led(3, 5, 7);
        x.touch(3, 0, 0);
        int[] pages = {3, 5, 2, 5};
        for (int table = 0; table < 4; table++) {
            for (int page = 0; page < 16; page++) {
                boolean has = page == pages[table];
                Due.is("28 TABLE " + table + ", PAGE " + page, x.told(table, page, 0) == -1 ? 0 : 1, has ? 1 : 0);
                Due.is("28 RIGHTS likewise", x.told(table, page, 1) == -1 ? 0 : 1, has ? 1 : 0);
            }
        }
    }

    /** 29: "by when it came, the one that came longest ago first. NONE: there is none." */
    private static void folded() {
        Due.is("29 there is none", Made.fresh().folded(0), -1);
        GuestLevels x = Made.straight(16);
        x.room(16);
        for (int n = 1; n <= 16; n++) {
            x.touch(16 - n, 0, 0);
            Due.is("29 the first", x.folded(0), 15);
            Due.is("29 the last of " + n, x.folded(n - 1), 16 - n);
            Due.is("29 none behind the last of " + n, x.folded(n), -1);
        }
        Edges.others("29 i", 0, 15, -1, i -> x.folded(i));
        x.touch(15, 0, 0);
        Due.is("29 TOUCHED again it doesn't come anew", x.folded(0), 15);
    }

    /** 30: "VALUE of a FRAME. NONE for others." */
    private static void frame() {
        GuestLevels x = new GuestLevels();
        Edges.taken("30 FRAME", 0, 9, f -> x.frame(f) == 11 * f);
        x.entry(2, 0, 9, 7);
        x.touch(0, 1, 9999);
        Due.is("30 the greatest VALUE", x.frame(9), 9999);
        x.touch(0, 1, 0);
        Due.is("30 the least VALUE", x.frame(9), 0);
    }

    /** 31: "The HANDLER for a REASON. NONE: none, and for others." */
    private static void handled() {
        GuestLevels x = new GuestLevels();
        for (int reason : new int[] {1, 4, 6, 8}) {
            Due.is("31 none", x.handled(reason), -1);
            x.handler(reason, reason);
            Due.is("31 for " + reason, x.handled(reason), reason);
        }
        for (int reason : new int[] {0, 2, 3, 5, 7, 9, 10, 24}) Due.is("31 others", x.handled(reason), -1);
        Edges.others("31 REASON", 1, 8, -1, reason -> x.handled(reason));
    }

    /** 32: "The VALUE that is STORED for an OUTER PAGE. NONE: none, and for others." */
    private static void stored() {
        GuestLevels x = new GuestLevels();
        x.touch(15, 1, 9999);
        x.touch(0, 1, 0);
        for (int p = 1; p < 11; p++) x.touch(p, 1, p);
        Due.is("32 OUTER PAGE 15", x.stored(15), 9999);
        Due.is("32 OUTER PAGE 0", x.stored(0), 0);
        for (int p = 1; p < 15; p++) Due.is("32 none for " + p, x.stored(p), -1);
        Edges.others("32 OUTER PAGE", 0, 15, -1, p -> x.stored(p));
    }

    /** 33: "The i-th OUTER PAGE that has an ENTRY of TABLE 2, by when that came, longest ago first. NONE: there is none." */
    private static void backed() {
        Due.is("33 there is none", Made.fresh().backed(0), -1);
        GuestLevels x = new GuestLevels();
        for (int n = 1; n <= 16; n++) {
            x.entry(2, 16 - n, n % 10, 7);
            Due.is("33 the first", x.backed(0), 15);
            Due.is("33 the last of " + n, x.backed(n - 1), 16 - n);
            Due.is("33 none behind the last of " + n, x.backed(n), -1);
        }
        Edges.others("33 i", 0, 15, -1, i -> x.backed(i));
        x.clear(2, 15);
        Due.is("33 the second is the first then", x.backed(0), 14);
        Due.is("33 fifteen", x.backed(15), -1);
    }

    /** 34: "OUTER PAGES whose ENTRIES are COPIED ONES (bits)." */
    private static void copied() {
        Due.is("34 none", Made.fresh().copied(), 0);
        GuestLevels x = new GuestLevels();
        x.touch(0, 1, 5);
        x.touch(15, 1, 5);
        x.touch(7, 1, 6);
        x.join();
        Due.is("34 the least and the greatest PAGE", x.copied(), 32769);
    }

    /** 35: "0 the VIRTUAL PAGE, 1 the PLACE; 2 TRAP PLACE. NONE: none, and for others." */
    private static void trapped() {
        for (int what = 0; what < 3; what++) Due.is("35 none", Made.fresh().trapped(what), -1);
        GuestLevels x = Made.entered();
        x.act(2, 4, 0, 0);
        x.act(2, 0, 15, 0);
        x.trapPlace(23);
        x.run(2);
        Due.is("35 the VIRTUAL PAGE", x.trapped(0), 15);
        Due.is("35 the PLACE", x.trapped(1), 1);
        Due.is("35 TRAP PLACE", x.trapped(2), 23);
        Edges.taken("35 what", 0, 2, what -> x.trapped(what) != -1);
    }

    /** 36: "how many (i NONE); the i-th, from the eldest on. NONE: there is none." */
    private static void heard() {
        GuestLevels x = Made.straight(10);
        Due.is("36 none", x.heard(-1), 0);
        for (int n = 1; n <= 30; n++) {
            x.touch(n % 10, 0, 0);
            int kept = n < 24 ? n : 24;
            Due.is("36 how many of " + n, x.heard(-1), kept);
            Due.is("36 the eldest of " + n, x.heard(0), n < 24 ? 11 : (n - 23) % 10 * 11);
            Due.is("36 the latest of " + n, x.heard(kept - 1), n % 10 * 11);
            Due.is("36 none behind it", x.heard(kept), -1);
        }
        Edges.others("36 i", -1, 23, -1, i -> x.heard(i));
    }

    /** 37: "CHANGED (bits)." */
    private static void changed() {
        Due.is("37 none", Made.fresh().changed(), 0);
        GuestLevels x = new GuestLevels();
        x.entry(2, 0, 0, 7);
        x.entry(2, 1, 9, 7);
        x.touch(0, 1, 0);
        x.touch(1, 1, 99);
        Due.is("37 the least and the greatest FRAME", x.changed(), 513);
    }

    /** 38: "the FRAME. -2, -3, -4: TABLE 0, 1, 2 has no ENTRY or not that RIGHT. NONE for others." */
    private static void walk() {
        for (int way = 0; way < 3; way++) {
            int but = 7 - (1 << way);
            Due.is("38 the FRAME", Made.led(1 << way, 1 << way, 1 << way).walk(3, way), 4);
            Due.is("38 TABLE 0 has no ENTRY", Made.led(0, 7, 7).walk(3, way), -2);
            Due.is("38 TABLE 0 has not that RIGHT", Made.led(but, 7, 7).walk(3, way), -2);
            Due.is("38 TABLE 1 has no ENTRY", Made.led(7, 0, 7).walk(3, way), -3);
            Due.is("38 TABLE 1 has not that RIGHT", Made.led(7, but, 7).walk(3, way), -3);
            Due.is("38 TABLE 2 has no ENTRY", Made.led(7, 7, 0).walk(3, way), -4);
            Due.is("38 TABLE 2 has not that RIGHT", Made.led(7, 7, but).walk(3, way), -4);
        }
        GuestLevels x = Made.straight(16);
        Edges.taken("38 VIRTUAL PAGE", 0, 15, p -> x.walk(p, 0) == p % 10 && p >= 0);
        Edges.taken("38 WAY", 0, 2, way -> x.walk(9, way) == 9);
        Edges.others("38 VIRTUAL PAGE", 0, 15, -1, p -> x.walk(p, 0));
        Edges.others("38 WAY", 0, 2, -1, way -> x.walk(9, way));
        Due.is("38 nothing is FOLDED by that", x.is(3), 0);
        Due.is("38 nobody sees it", x.exit(-1, 0), 0);
    }

    private static void walkStopsAtTheFirst() {
        Due.is("38 neither has: TABLE 0", Made.led(0, 0, 0).walk(3, 0), -2);
        Due.is("38 TABLES 1 and 2 have not: TABLE 1", Made.led(7, 0, 0).walk(3, 0), -3);
        Due.is("38 by TABLES alone, FOLDED or not", walkBehindFold(), 4);
    }

    private static int walkBehindFold() {
        GuestLevels x = Made.led(7, 7, 7);
        x.touch(3, 0, 0);
        return x.walk(3, 0);
    }

    /** 39: "RIGHTS (0: none). NONE for others." */
    private static void given() {
        Due.is("39 no ENTRY of any", Made.fresh().given(0), 0);
        Due.is("39 none of TABLE 0", Made.led(0, 7, 7).given(3), 0);
        Due.is("39 none of TABLE 1", Made.led(7, 0, 7).given(3), 0);
        Due.is("39 none of TABLE 2", Made.led(7, 7, 0).given(3), 0);
        Due.is("39 none in common", Made.led(1, 2, 4).given(3), 0);
        Due.is("39 all", Made.led(7, 7, 7).given(3), 7);
        Due.is("39 the least", Made.led(7, 3, 5).given(3), 1);
        GuestLevels x = Made.straight(16);
        Edges.taken("39 VIRTUAL PAGE", 0, 15, p -> x.given(p) == 7);
        Edges.others("39 VIRTUAL PAGE", 0, 15, -1, p -> x.given(p));
    }

    /** 40: "LAZY (bits)": "with some RIGHT of both, and FOLDED has none of" */
    private static void lazy() {
        Due.is("40 none", Made.fresh().lazy(), 0);
        GuestLevels x = Made.straight(16);
        Due.is("40 all sixteen", x.lazy(), 65535);
        x.room(16);
        x.touch(0, 0, 0);
        x.touch(15, 0, 0);
        Due.is("40 but those that are FOLDED", x.lazy(), 65535 - 32769);
        x.foldAhead();
        Due.is("40 none any more", x.lazy(), 0);
        Due.is("40 no ENTRY of TABLE 1", Made.led(7, 0, 7).lazy(), 0);
        Due.is("40 no ENTRY of TABLE 2", Made.led(7, 7, 0).lazy(), 0);
        Due.is("40 no RIGHT of both", Made.led(7, 5, 2).lazy(), 0);
        Due.is("40 one RIGHT of both", Made.led(7, 5, 4).lazy(), 32);
        Due.is("40 whatever TABLE 0 has", Made.led(0, 7, 7).lazy(), 32);
    }

    /** 41: "ALIASES (bits). NONE for others." */
    private static void aliases() {
        for (int f = 0; f < 10; f++) Due.is("41 none", Made.fresh().aliases(f), 0);
        GuestLevels x = Made.straight(16);
        Edges.taken("41 FRAME", 0, 9, f -> x.aliases(f) == (1 << f | (f < 6 ? 1 << f + 10 : 0)));
        Edges.others("41 FRAME", 0, 9, -1, f -> x.aliases(f));
        for (int p = 0; p < 16; p++) x.entry(0, p, 9, 1);
        Due.is("41 all sixteen", x.aliases(9), 65535);
        Due.is("41 of another one", x.aliases(8), 0);
        Due.is("41 whatever RIGHTS", Made.led(1, 2, 4).aliases(4), 8);
        Due.is("41 no ENTRY of TABLE 1", Made.led(7, 0, 7).aliases(4), 0);
        Due.is("41 no ENTRY of TABLE 2", Made.led(7, 7, 0).aliases(0), 0);
    }

    /** 42: "The lowest FREE FRAME. NONE: there is none." */
    private static void free() {
        GuestLevels x = new GuestLevels();
        for (int f = 0; f < 10; f++) {
            Due.is("42 the lowest", x.free(), f);
            x.entry(2, f, f, 7);
        }
        Due.is("42 there is none", x.free(), -1);
        for (int f = 9; f >= 0; f--) {
            x.clear(2, f);
            Due.is("42 the lowest again", x.free(), f);
        }
    }

    /** 43: "WANTED (by 0, 1), by either (2). NONE for others." */
    private static void wanted() {
        GuestLevels x = new GuestLevels();
        Edges.taken("43 by", 0, 2, by -> x.wanted(by) == 0);
        Edges.others("43 by", 0, 2, -1, by -> x.wanted(by));
        x.want(0, 129);
        x.want(1, 130);
        Due.is("43 by the host", x.wanted(0), 129);
        Due.is("43 by the outer guest", x.wanted(1), 130);
        Due.is("43 by either", x.wanted(2), 131);
        x.want(0, 255);
        Due.is("43 all by either", x.wanted(2), 255);
    }

    /** 44: "Who would see EVENT k, were it the inner guest's now (0, 1, 2). NONE for others." */
    private static void whose() {
        GuestLevels x = new GuestLevels();
        Edges.taken("44 EVENT", 0, 7, k -> x.whose(k) == 2);
        Edges.others("44 EVENT", 0, 7, -1, k -> x.whose(k));
        x.want(0, 128);
        Due.is("44 the host", x.whose(7), 0);
        Due.is("44 nobody", x.whose(0), 2);
        x.want(1, 129);
        Due.is("44 both want it", x.whose(7), 1);
        Due.is("44 the outer guest alone", x.whose(0), 1);
        x.want(0, 255);
        Due.is("44 in LEVEL 1, too, as if it were the inner guest's", x.whose(1), 0);
        Due.is("44 EVENT 8", x.whose(8), -1);
    }

    /** 45: "how many (i NONE); the i-th, from the eldest on: 0 who saw it, 1 REASON, 2 DETAIL, 3 TIME" */
    private static void exit() {
        GuestLevels x = new GuestLevels();
        x.want(0, 255);
        for (int n = 1; n <= 26; n++) {
            x.pass(1);
            x.event(n % 8);
            int kept = n < 24 ? n : 24;
            int eldest = n < 24 ? 1 : n - 23;
            Due.is("45 how many of " + n, x.exit(-1, 0), kept);
            Due.is("45 who, the eldest", x.exit(0, 0), 0);
            Due.is("45 REASON, the eldest", x.exit(0, 1), 5);
            Due.is("45 DETAIL of the eldest of " + n, x.exit(0, 2), eldest % 8);
            Due.is("45 TIME of the eldest of " + n, x.exit(0, 3), eldest);
            Due.is("45 DETAIL of the latest of " + n, x.exit(kept - 1, 2), n % 8);
            Due.is("45 TIME of the latest of " + n, x.exit(kept - 1, 3), n);
            Due.is("45 none behind it", x.exit(kept, 2), -2);
        }
    }

    /** 45: "-2 if there is none such, and for others" */
    private static void exitNoneSuch() {
        Due.is("45 none", Made.fresh().exit(-1, 0), 0);
        for (int what = 0; what < 4; what++) Due.is("45 none such", Made.fresh().exit(0, what), -2);
        GuestLevels x = new GuestLevels();
        Made.exits(x, 24);
        Edges.others("45 i", -1, 23, -2, i -> x.exit(i, 0));
        Edges.others("45 what", 0, 3, -2, what -> x.exit(0, what));
        Edges.taken("45 what of the last", 0, 3, what -> x.exit(23, what) != -2);
    }

    /** 46: "Of EXITS written down: how many are of a REASON (1 .. 9). 0 for others." */
    private static void exits() {
        for (int reason = -1; reason <= 10; reason++) Due.is("46 none", Made.fresh().exits(reason), 0);
        GuestLevels x = new GuestLevels();
        Made.exits(x, 24);
        Due.is("46 all", x.exits(5), 24);
        x.enter();
        x.event(0);
        Due.is("46 REASON 4", x.exits(4), 1);
        Due.is("46 one of them isn't written down any more", x.exits(5), 23);
        Edges.others("46 REASON", 1, 9, 0, reason -> x.exits(reason));
    }

    private static void exitsOfEachReason() {
        GuestLevels x = Made.led(7, 7, 1);
        x.touch(3, 1, 0);
        Due.is("46 REASON 2", x.exits(2), 1);
        x.entry(0, 4, 9, 7);
        x.touch(4, 0, 0);
        Due.is("46 REASON 1", x.exits(1), 1);
        x.touch(2, 1, 0);
        Due.is("46 REASON 3", x.exits(3), 1);
        x.want(0, 1);
        x.event(0);
        Due.is("46 REASON 5", x.exits(5), 1);
        x.enter();
        x.event(0);
        Due.is("46 REASON 4", x.exits(4), 1);
        x.open(1, true);
        x.send(1, 0);
        Due.is("46 REASON 6", x.exits(6), 1);
        x.timer(0, 0, 0);
        x.pass(1);
        Due.is("46 REASON 7", x.exits(7), 1);
        x.slice(1);
        x.enter();
        x.pass(1);
        Due.is("46 REASON 8", x.exits(8), 1);
        x.touch(8, 1, 5);
        x.touch(9, 1, 5);
        x.join();
        x.touch(9, 1, 6);
        Due.is("46 REASON 9", x.exits(9), 1);
        Due.is("46 REASON 2, of the outer guest, too", x.exits(2), 3);
        Due.is("45 all of them", x.exit(-1, 0), 11);
    }

    /** 47: "PENDING (1, 2): bits. NONE for others." */
    private static void pending() {
        GuestLevels x = new GuestLevels();
        Edges.taken("47 guest", 1, 2, guest -> x.pending(guest) == 0);
        Edges.others("47 guest", 1, 2, -1, guest -> x.pending(guest));
        x.send(1, 0);
        x.send(2, 15);
        Due.is("47 the least VECTOR", x.pending(1), 1);
        Due.is("47 the greatest VECTOR", x.pending(2), 32768);
    }

    /** 48: "IN SERVICE (1, 2): bits. NONE for others." */
    private static void service() {
        GuestLevels x = new GuestLevels();
        Edges.taken("48 guest", 1, 2, guest -> x.service(guest) == 0);
        Edges.others("48 guest", 1, 2, -1, guest -> x.service(guest));
        x.open(1, true);
        x.open(2, true);
        x.send(1, 0);
        x.send(2, 15);
        x.enter();
        Due.is("48 the least VECTOR", x.service(1), 1);
        Due.is("48 the greatest VECTOR", x.service(2), 32768);
    }

    /** 49: "Of an inner guest that isn't IN HAND: 0 .., 6 ACTS. NONE for others." */
    private static void putBy() {
        for (int now = 0; now < 3; now++) {
            GuestLevels x = new GuestLevels();
            if (now > 0) x.hand(now);
            for (int guest = 0; guest < 3; guest++) {
                for (int what = 0; what < 7; what++) {
                    Due.is("49 guest " + guest + ", " + now + " IN HAND", x.putBy(guest, what), guest == now ? -1 : 0);
                }
            }
            Edges.others("49 guest", 0, 2, -1, guest -> x.putBy(guest, 0));
            int other = (now + 1) % 3;
            Edges.taken("49 what", 0, 6, what -> x.putBy(other, what) == 0);
            Edges.others("49 what", 0, 6, -1, what -> x.putBy(other, what));
        }
        GuestLevels y = Made.straight(16);
        for (int i = 0; i < 24; i++) y.act(2, 4, 0, 0);
        y.run(23);
        Made.leave(y);
        for (int v = 0; v < 16; v++) y.send(2, v);
        y.hand(1);
        int[] due = {16, 16, 23, 65535, 0, 1, 24};
        for (int what = 0; what < 7; what++) Due.is("49 the most of " + what, y.putBy(0, what), due[what]);
    }

    /** 50: "SPENT by the outer guest (0), by inner guests 0 .. 2 (1 .. 3). NONE for others." */
    private static void spent() {
        GuestLevels x = new GuestLevels();
        Edges.taken("50 by", 0, 3, by -> x.spent(by) == 0);
        Edges.others("50 by", 0, 3, -1, by -> x.spent(by));
        x.hand(2);
        x.pass(1);
        x.enter();
        x.pass(200);
        int[] due = {1, 0, 0, 200};
        for (int by = 0; by < 4; by++) Due.is("50 by " + by, x.spent(by), due[by]);
    }

    /** 51: "SEEN: of an EVENT how often by the host (0), .. (1), by nobody but its own guest (2). NONE for others." */
    private static void seenOf() {
        GuestLevels x = new GuestLevels();
        for (int by = 0; by < 3; by++) {
            int who = by;
            Edges.taken("51 EVENT", 0, 7, k -> x.seenOf(k, who) == 0);
            Edges.others("51 EVENT", 0, 7, -1, k -> x.seenOf(k, who));
        }
        for (int k = 0; k < 8; k += 7) {
            int event = k;
            Edges.taken("51 by", 0, 2, by -> x.seenOf(event, by) == 0);
            Edges.others("51 by", 0, 2, -1, by -> x.seenOf(event, by));
        }
        for (int i = 1; i <= 30; i++) x.event(7);
        Due.is("51 all are counted", x.seenOf(7, 2), 30);
        Due.is("51 of the least none", x.seenOf(0, 2), 0);
    }

    /** 52: "OPEN (1, 2). False for others." */
    private static void isOpen() {
        GuestLevels x = new GuestLevels();
        x.open(1, true);
        x.open(2, true);
        Edges.taken("52 guest", 1, 2, guest -> x.isOpen(guest));
        x.open(1, false);
        Due.no("52 (1) isn't", x.isOpen(1));
        Due.yes("52 (2) is", x.isOpen(2));
    }

    /** 53: "The VECTOR that was TAKEN latest by a guest (1, 2). NONE: none, and for others." */
    private static void taken() {
        GuestLevels x = new GuestLevels();
        for (int guest = 0; guest < 4; guest++) Due.is("53 none", x.taken(guest), -1);
        x.open(1, true);
        x.open(2, true);
        x.send(1, 0);
        x.send(1, 15);
        x.send(2, 0);
        x.enter();
        Due.is("53 the greatest", x.taken(1), 15);
        Due.is("53 the least", x.taken(2), 0);
        Edges.others("53 guest", 1, 2, -1, guest -> x.taken(guest));
        GuestLevels y = new GuestLevels();
        y.open(1, true);
        y.send(1, 15);
        y.finish();
        y.send(1, 3);
        Due.is("53 the latest, not the greatest", y.taken(1), 3);
        y.finish();
        Due.is("53 ENDED: yet", y.taken(1), 3);
    }

    /** 54: "LONGEST (1, 2). NONE: none was TAKEN, and for others." */
    private static void longest() {
        GuestLevels x = new GuestLevels();
        for (int guest = 0; guest < 4; guest++) Due.is("54 none was TAKEN", x.longest(guest), -1);
        x.open(1, true);
        x.open(2, true);
        x.send(1, 0);
        x.send(2, 0);
        x.pass(200);
        x.enter();
        Due.is("54 at once", x.longest(1), 0);
        Due.is("54 behind 200", x.longest(2), 200);
        Edges.others("54 guest", 1, 2, -1, guest -> x.longest(guest));
    }

    /** 55: "For how much TIME a VECTOR has been PENDING of a guest (1, 2). NONE: it isn't, and for others." */
    private static void pendingFor() {
        for (int guest = 1; guest <= 2; guest++) {
            int of = guest;
            GuestLevels x = new GuestLevels();
            for (int v = 0; v < 16; v++) Due.is("55 it isn't", x.pendingFor(guest, v), -1);
            x.send(guest, 0);
            Due.is("55 from now on", x.pendingFor(guest, 0), 0);
            x.pass(1);
            x.send(guest, 15);
            x.pass(200);
            Due.is("55 the least VECTOR", x.pendingFor(guest, 0), 201);
            Due.is("55 the greatest VECTOR", x.pendingFor(guest, 15), 200);
            Edges.others("55 VECTOR", 0, 15, -1, v -> x.pendingFor(of, v));
            Due.is("55 not of the other guest", x.pendingFor(3 - guest, 0), -1);
        }
        GuestLevels y = new GuestLevels();
        y.send(1, 4);
        y.send(2, 4);
        Edges.taken("55 guest", 1, 2, guest -> y.pendingFor(guest, 4) == 0);
        Edges.others("55 guest", 1, 2, -1, guest -> y.pendingFor(guest, 4));
        y.open(1, true);
        Due.is("55 TAKEN: it isn't any more", y.pendingFor(1, 4), -1);
        y.pass(3);
        y.send(1, 4);
        Due.is("55 anew", y.pendingFor(1, 4), 0);
    }

    /** 56: "CLOCK of a LEVEL (0, 1, 2). -1000000000 for others." */
    private static void clock() {
        GuestLevels x = new GuestLevels();
        Edges.taken("56 LEVEL", 0, 2, level -> x.clock(level) == 0);
        Edges.others("56 LEVEL", 0, 2, -1000000000, level -> x.clock(level));
        x.scale(1, 16, -1);
        Due.is("56 NONE is a CLOCK, too", x.clock(1), -1);
    }

    /** 57: "0 LEVEL, 1 DEADLINE, 2 VECTOR, 3 DUE (i NONE: how many). -1000000000 if there is none such, and for others" */
    private static void timed() {
        Due.is("57 none", Made.fresh().timed(-1, 0), 0);
        for (int what = 0; what < 4; what++) Due.is("57 none such", Made.fresh().timed(0, what), -1000000000);
        for (int n : new int[] {1, 12}) {
            GuestLevels x = new GuestLevels();
            for (int i = 0; i < n; i++) x.timer(2, 999999, 15);
            x.timer(0, -99999, 0);
            int last = n == 12 ? 11 : 1;
            Due.is("57 how many", x.timed(-1, 0), last + 1);
            Due.is("57 LEVEL of the first", x.timed(0, 0), 2);
            Due.is("57 DEADLINE of the first", x.timed(0, 1), 999999);
            Due.is("57 VECTOR of the first", x.timed(0, 2), 15);
            Due.is("57 LEVEL of the last", x.timed(last, 0), n == 12 ? 2 : 0);
            Due.is("57 DEADLINE of the last", x.timed(last, 1), n == 12 ? 999999 : -99999);
            Due.is("57 VECTOR of the last", x.timed(last, 2), n == 12 ? 15 : 0);
            for (int what = 0; what < 4; what++) {
                int asked = what;
                Edges.others("57 i", -1, last, -1000000000, i -> x.timed(i, asked));
            }
            Edges.others("57 what", 0, 3, -1000000000, what -> x.timed(0, what));
        }
    }

    /** 57: DUE: "the first TIME behind this one at which it is due" */
    private static void timedDue() {
        GuestLevels x = new GuestLevels();
        x.timer(0, 0, 0);
        x.timer(0, 1, 0);
        x.timer(0, 2, 0);
        Due.is("57 at its DEADLINE already: behind this TIME", x.timed(0, 3), 1);
        Due.is("57 the next TIME", x.timed(1, 3), 1);
        Due.is("57 the one behind", x.timed(2, 3), 2);
        GuestLevels y = new GuestLevels();
        y.scale(1, 1, 0);
        y.timer(1, 1, 0);
        y.timer(1, 2, 0);
        Due.is("57 16 by 16", y.timed(0, 3), 16);
        Due.is("57 32 by 16", y.timed(1, 3), 32);
        y.scale(1, 64, -9999);
        Due.is("57 4 T - 9999 is 1", y.timed(0, 3), 2500);
        Due.is("57 beyond 2", y.timed(1, 3), 2501);
        y.scale(1, 16, 9999);
        Due.is("57 long ago", y.timed(0, 3), 1);
    }

    /** 57: "DUE: NONE, if not up to TIME 99999" */
    private static void timedDueAtTheEnd() {
        GuestLevels x = new GuestLevels();
        x.timer(0, 99999, 0);
        x.timer(0, 100000, 0);
        x.timer(1, 99999, 0);
        x.timer(2, 100000, 0);
        Due.is("57 at 99999", x.timed(0, 3), 99999);
        Due.is("57 not up to 99999", x.timed(1, 3), -1);
        Due.is("57 the outer guest's at 99999", x.timed(2, 3), 99999);
        Due.is("57 the inner one's not", x.timed(3, 3), -1);
        x.scale(2, 16, 1);
        Due.is("57 by its OFFSET at 99999", x.timed(3, 3), 99999);
        GuestLevels y = Made.late();
        y.pass(198);
        y.timer(0, 0, 0);
        Due.is("57 99999 is behind 99998", y.timed(0, 3), 99999);
        Due.is("58 and the first", y.first(), 0);
        y.undo();
        y.pass(1);
        y.timer(0, 0, 0);
        Due.is("57 none is behind 99999", y.timed(0, 3), -1);
        Due.is("58 none", y.first(), -1);
    }

    /** 58: "Which TIMER is due first .. NONE: there is none that is." */
    private static void first() {
        GuestLevels x = new GuestLevels();
        Due.is("58 there is none", x.first(), -1);
        x.timer(0, 100000, 0);
        Due.is("58 none that is due", x.first(), -1);
        x.timer(0, 99999, 0);
        Due.is("58 at 99999", x.first(), 1);
        for (int i = 2; i < 12; i++) {
            x.timer(0, 99999 - i, 0);
            Due.is("58 earlier", x.first(), i);
        }
        x.cancel(11);
        Due.is("58 then the one ahead", x.first(), 10);
    }

    /** 58: "(by TIME, then in order as they are due)" */
    private static void firstInOrder() {
        GuestLevels x = new GuestLevels();
        x.scale(1, 16, 10);
        x.timer(0, 5, 0);
        x.timer(1, 14, 0);
        Due.is("58 by TIME, not by DEADLINE or LEVEL", x.first(), 1);
        x.timer(0, 4, 0);
        Due.is("58 at one TIME by LEVEL", x.first(), 2);
        x.timer(0, 4, 1);
        Due.is("58 of one LEVEL and DEADLINE the one told first", x.first(), 2);
        GuestLevels y = new GuestLevels();
        y.timer(1, 0, 0);
        y.timer(1, 1, 0);
        Due.is("58 at one TIME the least DEADLINE", y.first(), 0);
        y.timer(1, -99999, 0);
        Due.is("58 the least DEADLINE", y.first(), 2);
        y.timer(0, 1, 0);
        Due.is("58 LEVEL ahead of DEADLINE", y.first(), 3);
    }

    /** 59: "0 the ACT, 1 a, 2 b (i NONE: how many). -2 if there is none such, and for others." */
    private static void program() {
        for (int guest = 1; guest <= 2; guest++) {
            int of = guest;
            Due.is("59 none", Made.fresh().program(guest, -1, 0), 0);
            for (int what = 0; what < 3; what++) Due.is("59 none such", Made.fresh().program(guest, 0, what), -2);
            GuestLevels x = new GuestLevels();
            for (int i = 0; i < 24; i++) x.act(guest, 1, i % 16, 9999 - i);
            Due.is("59 how many", x.program(guest, -1, 0), 24);
            for (int i = 0; i < 24; i += 23) {
                Due.is("59 the ACT", x.program(guest, i, 0), 1);
                Due.is("59 a", x.program(guest, i, 1), i % 16);
                Due.is("59 b", x.program(guest, i, 2), 9999 - i);
            }
            for (int what = 0; what < 3; what++) {
                int asked = what;
                Edges.others("59 i", -1, 23, -2, i -> x.program(of, i, asked));
            }
            Edges.others("59 what", 0, 2, -2, what -> x.program(of, 0, what));
            Edges.others("59 guest", 1, 2, -2, other -> x.program(other, 0, 0));
            Edges.others("59 guest, how many", 1, 2, -2, other -> x.program(other, -1, 0));
        }
    }
}
