/** Promises 1 to 6, 28 to 30, 32 to 34, 37 to 42: TABLES, FRAMES, FOLDED. */
public final class TablesPromisesTest {
    private TablesPromisesTest() {
    }

    public static void main(String[] args) {
        newObject();
        entry();
        entryUnfolds();
        clear();
        room();
        roomOthers();
        foldAhead();
        join();
        joinManyAndOrder();
        partedAlone();
        partedWithoutFree();
        partedUnfolds();
        swappedIsGone();
        swappedCopies();
        copiesAreFoldedWithoutWrite();
        tellingEndsACopy();
        told();
        folded();
        frame();
        storedAndBacked();
        retoldEntryComesAnew();
        changed();
        walkAndGiven();
        lazy();
        aliases();
        free();
        Due.end();
    }

    /** TABLE 1 page p to p, TABLE 2 page p to frame p, TABLE 0 page p to p, for p below n; LEVEL 2 then. */
    private static GuestLevels straight(int n) {
        GuestLevels x = new GuestLevels();
        for (int p = 0; p < n; p++) {
            x.entry(1, p, p, 7);
            x.entry(2, p, p, 7);
        }
        x.enter();
        for (int p = 0; p < n; p++) x.entry(0, p, p, 7);
        return x;
    }

    private static void newObject() {
        GuestLevels x = new GuestLevels();
        for (int table = 0; table < 4; table++) {
            for (int page = 0; page < 16; page++) Due.is("1 told", x.told(table, page, 0), -1);
        }
        Due.is("1 LEVEL", x.is(0), 1);
        Due.is("1 ROOM", x.is(2), 6);
        x.pass(3);
        x.touch(2, 1, 5);
        Due.is("1 THE IMAGE is the new object", x.back(), 0);
        Due.is("1 TABLE 2 then", x.told(2, 2, 0), -1);
        Due.is("1 VALUE then", x.frame(0), 0);
    }

    private static void entry() {
        GuestLevels x = new GuestLevels();
        Due.no("2 TABLE 0 in LEVEL 1", x.entry(0, 0, 0, 7));
        Due.yes("2 TABLE 1 in LEVEL 1", x.entry(1, 15, 15, 1));
        Due.yes("2 TABLE 2 in LEVEL 1", x.entry(2, 15, 9, 7));
        Due.no("2 FRAME 10", x.entry(2, 0, 10, 7));
        Due.no("2 INNER PAGE 16", x.entry(1, 16, 0, 7));
        Due.no("2 to 16", x.entry(1, 0, 16, 7));
        Due.no("2 to -1", x.entry(1, 0, -1, 7));
        Due.no("2 page -1", x.entry(2, -1, 0, 7));
        Due.no("2 RIGHTS 0", x.entry(2, 0, 0, 0));
        Due.no("2 RIGHTS 8", x.entry(2, 0, 0, 8));
        Due.no("2 TABLE 3", x.entry(3, 0, 0, 7));
        Due.no("2 TABLE -1", x.entry(-1, 0, 0, 7));
        Due.is("2 no STEP by what can't be", x.steps(), 2);
        x.enter();
        Due.yes("2 TABLE 0 in LEVEL 2", x.entry(0, 15, 15, 3));
        Due.no("2 TABLE 1 in LEVEL 2", x.entry(1, 0, 0, 7));
        Due.yes("2 TABLE 2 in LEVEL 2", x.entry(2, 14, 9, 2));
        Due.is("2 to", x.told(0, 15, 0), 15);
        Due.is("2 RIGHTS", x.told(0, 15, 1), 3);
    }

    private static void entryUnfolds() {
        GuestLevels x = straight(3);
        for (int p = 0; p < 3; p++) x.touch(p, 0, 0);
        x.entry(2, 1, 7, 7);
        Due.is("2 TABLE 2 told: FOLDED of its INNER PAGE", x.told(3, 1, 0), -1);
        Due.is("2 FOLDED of others", x.is(3), 2);
        x.entry(0, 0, 2, 7);
        Due.is("2 TABLE 0 told: FOLDED", x.is(3), 2);
        x.send(1, 3);
        x.open(1, true);
        Due.is("2 LEVEL", x.is(0), 1);
        x.entry(1, 2, 1, 7);
        Due.is("2 TABLE 1 told: FOLDED", x.told(3, 2, 0), -1);
        Due.is("2 FOLDED of page 0", x.told(3, 0, 0), 0);
    }

    private static void clear() {
        GuestLevels x = straight(2);
        x.touch(0, 0, 0);
        x.touch(1, 0, 0);
        Due.no("3 TABLE 1 in LEVEL 2", x.clear(1, 0));
        Due.yes("3 TABLE 0 in LEVEL 2", x.clear(0, 0));
        Due.is("3 gone", x.told(0, 0, 0), -1);
        Due.is("3 FOLDED stays", x.is(3), 2);
        Due.no("3 has none", x.clear(0, 0));
        Due.yes("3 TABLE 2", x.clear(2, 0));
        Due.is("3 FOLDED of page 0", x.told(3, 0, 0), -1);
        Due.no("3 page 16", x.clear(2, 16));
        Due.no("3 page -1", x.clear(2, -1));
        Due.no("3 TABLE 3", x.clear(3, 1));
        x.open(1, true);
        x.send(1, 0);
        Due.no("3 TABLE 0 in LEVEL 1", x.clear(0, 1));
        Due.yes("3 TABLE 1 in LEVEL 1", x.clear(1, 1));
        Due.is("3 gone", x.told(1, 1, 0), -1);
        Due.is("3 FOLDED of page 1", x.told(3, 1, 0), -1);

        GuestLevels y = new GuestLevels();
        for (int p = 0; p < 11; p++) y.touch(p, 1, 50 + p);
        Due.is("3 STORED", y.stored(0), 50);
        Due.no("3 no ENTRY, only STORED", y.clear(2, 0));
        Due.is("3 STORED yet", y.stored(0), 50);
        y.entry(2, 0, 3, 7);
        Due.is("3 told by hand: STORED no more", y.stored(0), -1);
        Due.yes("3 TABLE 2 of page 0", y.clear(2, 0));
        Due.is("3 STORED by that", y.stored(0), -1);
    }

    private static void room() {
        GuestLevels x = straight(5);
        for (int p = 4; p >= 0; p--) x.touch(p, 0, 0);
        Due.is("4 FOLDED", x.is(3), 5);
        Due.yes("4 room 2", x.room(2));
        Due.is("4 ROOM", x.is(2), 2);
        Due.is("4 those that came latest stay", x.folded(0), 1);
        Due.is("4 those that came latest stay", x.folded(1), 0);
        Due.is("4 others go", x.is(3), 2);
        x.touch(3, 0, 0);
        Due.is("4 eldest goes", x.told(3, 1, 0), -1);
        Due.is("4 at ROOM", x.is(3), 2);
        Due.is("4 first", x.folded(0), 0);
        Due.is("4 second", x.folded(1), 3);
    }

    private static void roomOthers() {
        GuestLevels x = new GuestLevels();
        Due.no("4 room 0", x.room(0));
        Due.no("4 room 17", x.room(17));
        Due.yes("4 room 1", x.room(1));
        Due.yes("4 room 16", x.room(16));
        Due.is("4 STEPS", x.steps(), 2);
    }

    private static void foldAhead() {
        GuestLevels x = straight(8);
        x.touch(5, 0, 0);
        int seen = x.is(5);
        Due.is("5 as many as there is ROOM for", x.foldAhead(), 5);
        Due.is("5 the lowest first", x.folded(1), 0);
        Due.is("5 the last", x.folded(5), 4);
        Due.is("5 not the others", x.told(3, 6, 0), -1);
        Due.is("5 no EXIT", x.is(5), seen);
        Due.is("5 none any more", x.foldAhead(), 0);
        Due.is("5 RIGHTS", x.told(3, 2, 1), 7);
        int steps = x.steps();
        Due.is("5 is a STEP", x.undo(), steps - 1);

        GuestLevels y = new GuestLevels();
        y.entry(1, 3, 4, 3);
        y.entry(2, 4, 1, 6);
        y.entry(1, 5, 6, 1);
        y.entry(2, 6, 2, 2);
        y.entry(1, 7, 9, 7);
        Due.is("5 only with some RIGHT of both", y.foldAhead(), 1);
        Due.is("5 the FRAME", y.told(3, 3, 0), 1);
        Due.is("5 the RIGHTS of both", y.told(3, 3, 1), 2);
    }

    private static void join() {
        GuestLevels x = new GuestLevels();
        Due.is("6 FRAMES to which nothing leads", x.join(), 0);
        Due.is("6 is a STEP", x.steps(), 1);
        x.entry(2, 8, 3, 5);
        x.entry(2, 2, 7, 7);
        x.touch(2, 1, 33);
        x.entry(2, 5, 7, 1);
        x.entry(1, 0, 8, 7);
        x.entry(1, 1, 2, 7);
        x.entry(1, 2, 9, 7);
        x.entry(2, 9, 9, 7);
        Due.is("6 ahead", x.foldAhead(), 3);
        Due.is("6 one FRAME came to be FREE", x.join(), 1);
        Due.is("6 leads to the lower one", x.told(2, 2, 0), 3);
        Due.is("6 all that did", x.told(2, 5, 0), 3);
        Due.is("6 RIGHTS stay", x.told(2, 5, 1), 1);
        Due.is("6 all are COPIED ONES", x.copied(), 1 << 8 | 1 << 2 | 1 << 5);
        Due.is("6 FOLDED has none of theirs", x.is(3), 1);
        Due.is("6 but others", x.folded(0), 2);
        Due.is("6 by when they came as ahead", x.backed(0), 8);
        Due.is("6 by when they came as ahead", x.backed(1), 2);
        Due.is("6 FREE", x.is(4), 8);
        Due.is("6 again", x.join(), 0);
    }

    private static void joinManyAndOrder() {
        GuestLevels x = new GuestLevels();
        for (int p = 0; p < 6; p++) x.touch(p, 1, p % 2 == 0 ? 7 : 8);
        Due.is("6 three of each", x.join(), 4);
        Due.is("6 page 4", x.told(2, 4, 0), 0);
        Due.is("6 page 5", x.told(2, 5, 0), 1);
        Due.is("6 COPIED ONES", x.copied(), 63);
        Due.is("6 FREE", x.is(4), 8);
    }

    private static void partedAlone() {
        GuestLevels x = new GuestLevels();
        x.entry(2, 0, 4, 7);
        x.entry(2, 1, 5, 7);
        x.entry(2, 2, 8, 7);
        x.touch(1, 1, 44);
        x.join();
        x.clear(2, 0);
        Due.is("6 page 1 is COPIED yet", x.copied(), 2);
        int swapped = x.is(8);
        Due.is("9 WRITE of a COPIED ONE that is alone", x.touch(1, 1, 6), 6);
        Due.is("9 its FRAME", x.told(2, 1, 0), 4);
        Due.is("9 by when it came as ahead", x.backed(0), 1);
        Due.is("9 COPIED no more", x.copied(), 0);
        Due.is("9 REASON 9", x.exits(9), 1);
        Due.is("9 SWAPPED", x.is(8), swapped);
    }

    private static void partedWithoutFree() {
        GuestLevels x = new GuestLevels();
        for (int p = 0; p < 10; p++) x.touch(p, 1, 100 + p);
        x.touch(9, 1, 104);
        Due.is("6 pages 4 and 9", x.join(), 1);
        x.touch(10, 1, 200);
        Due.is("9 FRAME 9 is FREE", x.told(2, 10, 0), 9);
        Due.is("9 none is FREE", x.is(4), 0);
        Due.is("9 WRITE parts", x.touch(9, 1, 77), 77);
        Due.is("9 the one that came longest ago is SWAPPED", x.stored(0), 100);
        Due.is("9 counted once", x.is(8), 1);
        Due.is("9 the FREE FRAME", x.told(2, 9, 0), 0);
        Due.is("9 STORED no more", x.stored(9), -1);
        Due.is("9 the other's VALUE stays", x.frame(4), 104);
        Due.is("9 the one that is gone gives no RIGHT", x.told(2, 0, 1), -1);
        Due.is("9 page 4 is COPIED yet", x.copied(), 16);
        Due.is("9 it came latest", x.backed(9), 9);
    }

    /** FOLDED has none of INNER PAGES that lead to a PARTED one, whoever WRITES. */
    private static void partedUnfolds() {
        for (int level = 1; level <= 2; level++) {
            GuestLevels x = new GuestLevels();
            x.entry(2, 0, 4, 7);
            x.entry(2, 1, 5, 7);
            x.touch(1, 1, 44);
            x.join();
            x.clear(2, 0);
            x.entry(1, 6, 1, 7);
            x.entry(1, 7, 1, 7);
            x.entry(1, 8, 2, 7);
            x.entry(2, 2, 9, 7);
            Due.is("5 FOLDED", x.foldAhead(), 3);
            if (level == 2) {
                x.enter();
                x.entry(0, 0, 7, 7);
            }
            Due.is("9 WRITE", x.touch(level == 2 ? 0 : 1, 1, 3), 3);
            Due.is("9 FOLDED of the other INNER PAGE", x.told(3, 6, 0), -1);
            Due.is("9 FOLDED of the one that is TOUCHED", x.told(3, 7, 1), level == 2 ? 7 : -1);
            Due.is("9 FOLDED of one that leads elsewhere", x.told(3, 8, 0), 9);
        }
    }

    /** A SWAPPED one leads nowhere. */
    private static void swappedIsGone() {
        GuestLevels x = new GuestLevels();
        for (int p = 0; p < 10; p++) x.touch(p, 1, 40 + p);
        x.entry(1, 5, 0, 7);
        x.touch(12, 0, 0);
        x.enter();
        x.entry(0, 3, 5, 7);
        Due.is("38 walk", x.walk(3, 0), -4);
        Due.is("39 given", x.given(3), 0);
        Due.is("40 lazy", x.lazy(), 0);
        Due.is("41 aliases", x.aliases(0), 0);
        Due.is("26 undo of TABLE 0 told, enter, touch", x.undo() + x.undo() + x.undo(), 11 + 12 + 13);
        Due.is("32 STORED no more", x.stored(0), -1);
        Due.is("27 SWAPPED no more", x.is(8), 0);
    }

    /** The COPIED ONES themselves came longest ago: they go, and are no COPIED ONES then. */
    private static void swappedCopies() {
        GuestLevels x = new GuestLevels();
        for (int p = 0; p < 10; p++) x.touch(p, 1, 100 + p / 3);
        Due.is("6 all but the last by threes", x.join(), 6);
        for (int p = 0; p < 3; p++) x.entry(1, p, p, 7);
        Due.is("5 FOLDED", x.foldAhead(), 3);
        for (int p = 10; p < 16; p++) x.touch(p, 1, p);
        Due.is("9 none is FREE", x.is(4), 0);
        Due.is("9 WRITE by page 5", x.touch(5, 1, 1), 1);
        Due.is("27 pages 0, 1, 2 had to go", x.is(8), 3);
        Due.is("32 STORED", x.stored(2), 100);
        Due.is("34 COPIED yet", x.copied(), 0b111011000);
        Due.is("29 FOLDED no more", x.is(3), 0);
        Due.is("9 in their FRAME", x.told(2, 5, 0), 0);
        Due.is("9 page 1 comes back", x.touch(1, 0, 0), 100);
        Due.is("34 not as a COPIED ONE", x.copied() & 2, 0);
    }

    private static void copiesAreFoldedWithoutWrite() {
        GuestLevels x = straight(3);
        x.touch(0, 1, 9);
        x.touch(1, 1, 9);
        x.join();
        Due.is("9 READ", x.touch(1, 0, 0), 9);
        Due.is("9 FOLDED without WRITE", x.told(3, 1, 1), 5);
        Due.is("38 walk READ", x.walk(1, 0), 0);
        Due.is("38 walk WRITE", x.walk(1, 1), -4);
        Due.is("39 given", x.given(1), 5);
        int seen = x.exits(2);
        Due.is("9 WRITE parts", x.touch(1, 1, 4), 4);
        Due.is("9 by one EXIT of REASON 2", x.exits(2), seen + 1);
        Due.is("9 FOLDED with WRITE", x.told(3, 1, 1), 7);
        Due.is("9 a FRAME of its own", x.told(3, 1, 0), 1);
        Due.is("9 the other one", x.frame(0), 9);
        Due.is("9 COPIED yet", x.copied(), 1);

        GuestLevels y = new GuestLevels();
        y.entry(2, 0, 0, 5);
        y.entry(2, 1, 1, 7);
        y.touch(1, 1, 0);
        y.join();
        Due.is("9 COPIED without the RIGHT", y.touch(0, 1, 3), -4);
        Due.is("9 REASON 3", y.exits(3), 1);
        Due.is("9 COPIED yet", y.copied(), 3);
        y.entry(1, 4, 1, 2);
        Due.is("40 gives no RIGHT of both", y.lazy(), 0);
    }

    private static void tellingEndsACopy() {
        GuestLevels x = new GuestLevels();
        for (int p = 0; p < 3; p++) x.touch(p, 1, 5);
        x.join();
        Due.is("34 COPIED", x.copied(), 7);
        x.entry(2, 1, 0, 7);
        Due.is("34 told: no COPIED ONE", x.copied(), 5);
        Due.is("9 WRITE at the FRAME of all", x.touch(1, 1, 6), 6);
        Due.is("9 REASON 9", x.exits(9), 0);
        x.clear(2, 2);
        Due.is("34 gone", x.copied(), 1);
    }

    private static void told() {
        GuestLevels x = straight(2);
        x.touch(1, 0, 0);
        Due.is("28 TABLE 0", x.told(0, 1, 0), 1);
        Due.is("28 TABLE 1 RIGHTS", x.told(1, 1, 1), 7);
        Due.is("28 TABLE 2", x.told(2, 1, 0), 1);
        Due.is("28 FOLDED", x.told(3, 1, 0), 1);
        Due.is("28 FOLDED none", x.told(3, 0, 1), -1);
        Due.is("28 what 2", x.told(0, 1, 2), -1);
        Due.is("28 what -1", x.told(0, 1, -1), -1);
        Due.is("28 TABLE 4", x.told(4, 1, 0), -1);
        Due.is("28 TABLE -1", x.told(-1, 1, 0), -1);
        Due.is("28 page 16", x.told(0, 16, 0), -1);
        Due.is("28 page -1", x.told(0, -1, 0), -1);
    }

    private static void folded() {
        GuestLevels x = straight(4);
        x.touch(2, 0, 0);
        x.touch(0, 2, 0);
        x.touch(3, 1, 1);
        x.touch(2, 0, 0);
        Due.is("29 eldest", x.folded(0), 2);
        Due.is("29 next", x.folded(1), 0);
        Due.is("29 latest", x.folded(2), 3);
        Due.is("29 none", x.folded(3), -1);
        Due.is("29 -1", x.folded(-1), -1);
    }

    private static void frame() {
        GuestLevels x = new GuestLevels();
        for (int f = 0; f < 10; f++) Due.is("30 at first", x.frame(f), 11 * f);
        x.entry(2, 3, 4, 2);
        x.touch(3, 1, 9999);
        Due.is("30 WRITTEN", x.frame(4), 9999);
        Due.is("30 FRAME 10", x.frame(10), -1);
        Due.is("30 FRAME -1", x.frame(-1), -1);
    }

    private static void storedAndBacked() {
        GuestLevels x = new GuestLevels();
        x.entry(2, 7, 0, 1);
        for (int f = 0; f < 10; f++) x.entry(2, f == 7 ? 15 : f, f, 7);
        Due.is("33 eldest", x.backed(0), 7);
        Due.is("33 the 11th", x.backed(10), 9);
        Due.is("33 none", x.backed(11), -1);
        Due.is("33 -1", x.backed(-1), -1);
        Due.is("9 GIVEN a FRAME", x.touch(12, 0, 0), 0);
        Due.is("32 the eldest is STORED", x.stored(7), 0);
        Due.is("32 FRAME 0 wasn't FREE by that: the next one, too", x.stored(0), 0);
        Due.is("27 SWAPPED", x.is(8), 2);
        Due.is("33 eldest then", x.backed(0), 1);
        Due.is("9 the next one", x.touch(13, 0, 0), 0);
        Due.is("32 page 1", x.stored(1), 11);
        Due.is("9 page 1 again: what was STORED", x.touch(1, 0, 0), 11);
        Due.is("32 STORED no more", x.stored(1), -1);
        Due.is("32 page 16", x.stored(16), -1);
        Due.is("32 page -1", x.stored(-1), -1);
    }

    private static void retoldEntryComesAnew() {
        GuestLevels x = new GuestLevels();
        x.entry(2, 1, 1, 7);
        x.entry(2, 2, 2, 7);
        x.entry(2, 1, 1, 7);
        Due.is("33 told anew, it came latest", x.backed(0), 2);
        Due.is("33 told anew, it came latest", x.backed(1), 1);
    }

    private static void changed() {
        GuestLevels x = new GuestLevels();
        x.entry(2, 0, 4, 7);
        x.touch(0, 0, 0);
        Due.is("37 READ changes none", x.changed(), 0);
        x.touch(0, 1, 44);
        Due.is("37 WRITTEN", x.changed(), 16);
        x.touch(1, 0, 0);
        Due.is("37 GIVEN", x.changed(), 17);
        Due.is("21 forget", x.forget(), 2);
        Due.is("37 forgotten", x.changed(), 0);
        Due.is("21 again", x.forget(), 0);
        int steps = x.steps();
        Due.is("21 is a STEP", x.undo(), steps - 1);
    }

    private static void walkAndGiven() {
        GuestLevels x = new GuestLevels();
        x.entry(1, 2, 3, 3);
        x.entry(2, 3, 8, 5);
        x.enter();
        x.entry(0, 1, 2, 7);
        x.entry(0, 4, 5, 4);
        Due.is("38 READ", x.walk(1, 0), 8);
        Due.is("38 TABLE 2 not WRITE", x.walk(1, 1), -4);
        Due.is("38 TABLE 1 not RUN", x.walk(1, 2), -3);
        Due.is("38 TABLE 0 not READ", x.walk(4, 0), -2);
        Due.is("38 TABLE 1 no ENTRY", x.walk(4, 2), -3);
        Due.is("38 TABLE 0 no ENTRY", x.walk(0, 0), -2);
        x.clear(2, 3);
        Due.is("38 TABLE 2 no ENTRY", x.walk(1, 0), -4);
        Due.is("39 without TABLE 2", x.given(1), 0);
        x.entry(2, 3, 8, 5);
        Due.is("39 RIGHTS of all three", x.given(1), 1);
        Due.is("39 none", x.given(0), 0);
        Due.is("39 no INNER ENTRY", x.given(4), 0);
        Due.is("38 page 16", x.walk(16, 0), -1);
        Due.is("38 page -1", x.walk(-1, 0), -1);
        Due.is("38 WAY 3", x.walk(1, 3), -1);
        Due.is("38 WAY -1", x.walk(1, -1), -1);
        Due.is("39 page 16", x.given(16), -1);
        Due.is("39 page -1", x.given(-1), -1);
        Due.is("38 no EXIT, no FOLDED", x.is(5) + x.is(3), 0);
    }

    private static void lazy() {
        GuestLevels x = straight(3);
        Due.is("40 all", x.lazy(), 7);
        x.touch(1, 0, 0);
        Due.is("40 but FOLDED ones", x.lazy(), 5);
        x.clear(2, 2);
        Due.is("40 but those without a FRAME", x.lazy(), 1);
    }

    private static void aliases() {
        GuestLevels x = straight(3);
        x.entry(0, 9, 2, 1);
        x.entry(0, 10, 12, 7);
        Due.is("41 of FRAME 2", x.aliases(2), 1 << 2 | 1 << 9);
        Due.is("41 of FRAME 5", x.aliases(5), 0);
        Due.is("41 FRAME 10", x.aliases(10), -1);
        Due.is("41 FRAME -1", x.aliases(-1), -1);
        x.entry(2, 2, 1, 4);
        Due.is("41 whatever RIGHTS", x.aliases(1), 1 << 1 | 1 << 2 | 1 << 9);
    }

    private static void free() {
        GuestLevels x = new GuestLevels();
        x.entry(2, 0, 0, 7);
        x.entry(2, 1, 2, 7);
        Due.is("42 lowest", x.free(), 1);
        for (int f = 0; f < 10; f++) x.entry(2, f, f, 7);
        Due.is("42 none", x.free(), -1);
        Due.is("27 FREE", x.is(4), 0);
        x.clear(2, 9);
        Due.is("42 the last", x.free(), 9);
    }
}
