/** Part III and promises 60 to 70: what is FORETOLD, PLAINLY, share, THE IMAGE, STEPS, at their edges. */
public final class ForetoldEdgesTest {
    private ForetoldEdgesTest() {
    }

    public static void main(String[] args) {
        changesNothing();
        foretold();
        foretoldWhat();
        foretoldAsGone();
        foretoldAtTheEnd();
        tillTheEnd();
        till();
        tillTwoHundred();
        tillTheFirst();
        waits();
        waitsTwoHundred();
        waitsNext();
        roomiest();
        roomiestBounds();
        roomiestLeast();
        roomiestFresh();
        plainly();
        plainlyAtFirst();
        plainlyByTable0();
        plainlyRoundAndRound();
        plainlyOwnValues();
        plainTraps();
        plainTrapPlace();
        plainTrappedAtFirst();
        plainOtherActs();
        plainHeard();
        share();
        shareOfMany();
        image();
        back();
        backStays();
        steps();
        Due.end();
    }

    /** "All that follows changes nothing but what is told." */
    private static void changesNothing() {
        GuestLevels x = busy();
        int time = x.is(1);
        int exits = x.is(5) + x.is(6);
        int steps = x.steps();
        x.foretold(200, 5);
        x.till();
        x.waits(1);
        x.waits(2);
        x.roomiest(100);
        x.plainly(200, 3);
        x.plainTraps(200);
        x.plainHeard(200);
        x.first();
        x.share();
        Due.is("60 TIME", x.is(1), time);
        Due.is("60 EXITS", x.is(5) + x.is(6), exits);
        Due.is("60 STEPS", x.steps(), steps);
        Due.is("63 ROOM", x.is(2), 6);
        Due.is("64 TABLE 0", x.told(0, 9, 0), -1);
        Due.is("65 TRAPPED", x.trapped(0), -1);
        Due.is("60 undo behind that", x.undo(), steps - 1);
    }

    /** Both guests have PROGRAMS. */
    private static GuestLevels busy() {
        GuestLevels x = new GuestLevels();
        x.act(1, 6, 0, 0);
        x.act(1, 9, 3, 0);
        x.act(1, 1, 4, 44);
        x.act(2, 6, 9, 2);
        x.act(2, 1, 9, 500);
        x.act(2, 0, 9, 0);
        x.act(2, 0, 7, 0);
        x.timer(0, 50, 1);
        x.timer(1, 60, 2);
        return x;
    }

    /** "FORETOLD behind n (1 .. 200) times GONE." 60: "NONE for others." */
    private static void foretold() {
        GuestLevels x = new GuestLevels();
        Edges.taken("60 n", 1, 200, n -> x.foretold(n, 1) == n && n > 0);
        Edges.others("60 n", 1, 200, -1, n -> x.foretold(n, 1));
        Edges.others("60 n, LEVEL", 1, 200, -1, n -> x.foretold(n, 0));
    }

    private static void foretoldWhat() {
        GuestLevels x = new GuestLevels();
        x.want(1, 1);
        x.enter();
        x.event(0);
        Edges.taken("60 what", 0, 17, what -> x.foretold(1, what) != -1);
        Edges.others("60 what", 0, 17, -1, what -> x.foretold(200, what));
        Due.is("60 no EXIT was dealt", Made.fresh().foretold(1, 15), -1);
        Due.is("60 nor its DETAIL", Made.fresh().foretold(1, 16), -1);
    }

    /** "as is()" */
    private static void foretoldAsGone() {
        for (int n : new int[] {1, 2, 7, 49, 50, 199, 200}) {
            GuestLevels x = busy();
            GuestLevels y = busy();
            y.run(n);
            for (int what = 0; what < 18; what++) {
                Due.is("60 behind " + n + ": " + what, x.foretold(n, what), y.is(what));
            }
        }
    }

    private static void foretoldAtTheEnd() {
        GuestLevels x = Made.late();
        Due.is("60 up to 99999", x.foretold(199, 1), 99999);
        Due.is("60 TIME would be above 99999", x.foretold(200, 1), -1);
        Due.is("63 up to 99999", x.roomiest(100), 1);
        x.pass(199);
        Due.is("60 above 99999", x.foretold(1, 1), -1);
        Due.is("61 none behind 99999", x.till(), -1);
        Due.is("62 none behind 99999", x.waits(1), -1);
        Due.is("63 above 99999", x.roomiest(1), -1);
        Due.is("64 PLAINLY no TIME goes on", x.plainly(200, 0), 0);
    }

    /** TIME is 99999 at most, so no GONE is behind that. */
    private static void tillTheEnd() {
        GuestLevels x = Made.late();
        x.pass(198);
        x.slice(1);
        x.enter();
        Due.is("61 at 99999", x.till(), 1);
        x.undo();
        x.slice(2);
        x.enter();
        Due.is("61 it would be at 100000", x.till(), -1);
        GuestLevels y = Made.late();
        y.pass(198);
        y.open(1, true);
        y.timer(1, 99999, 0);
        Due.is("62 at 99999", y.waits(1), 1);
        y.cancel(0);
        y.timer(1, 100000, 0);
        Due.is("62 it would be at 100000", y.waits(1), -1);
    }

    /** 61: "in how many times GONE (200 at most) an EXIT is dealt to the outer guest first. NONE: in none of these." */
    private static void till() {
        Due.is("61 none", Made.fresh().till(), -1);
        Due.is("61 none in LEVEL 2", Made.entered().till(), -1);
        GuestLevels x = new GuestLevels();
        x.want(0, 255);
        x.act(1, 3, 0, 0);
        Due.is("61 not those that the host sees", x.till(), -1);
        GuestLevels y = Made.entered();
        y.slice(1);
        Due.is("61 the least", y.till(), 1);
    }

    private static void tillTwoHundred() {
        for (int deadline : new int[] {1, 199, 200, 201, 202}) {
            GuestLevels x = Made.entered();
            x.open(1, true);
            x.timer(1, deadline, 0);
            Due.is("61 at " + deadline, x.till(), deadline <= 200 ? deadline : -1);
        }
    }

    private static void tillTheFirst() {
        GuestLevels x = Made.entered();
        x.open(1, true);
        x.timer(1, 7, 0);
        x.slice(3);
        x.undo();
        x.timer(1, 90, 15);
        Due.is("61 the first of two", x.till(), 7);
        x.run(7);
        Due.is("61 in LEVEL 1 none", x.till(), -1);
        x.enter();
        Due.is("61 the next one", x.till(), 83);
    }

    /** 62: "in how many times GONE (200 at most) a guest (1, 2) TAKES a VECTOR next. NONE: in none of these, and for others." */
    private static void waits() {
        GuestLevels x = new GuestLevels();
        x.timer(1, 1, 0);
        x.timer(2, 1, 0);
        x.act(1, 4, 0, 0);
        x.act(1, 6, 0, 0);
        x.act(2, 4, 0, 0);
        Due.is("62 the outer guest", x.waits(1), 1);
        Due.is("62 the inner one", x.waits(2), 3);
        Edges.others("62 guest", 1, 2, -1, guest -> x.waits(guest));
        Due.is("62 none", Made.fresh().waits(1), -1);
        Due.is("62 none of the inner one", Made.entered().waits(2), -1);
    }

    private static void waitsTwoHundred() {
        for (int deadline : new int[] {1, 199, 200, 201, 202}) {
            for (int guest = 1; guest <= 2; guest++) {
                GuestLevels x = Made.entered();
                x.open(guest, true);
                x.timer(guest, deadline, 15);
                Due.is("62 guest " + guest + " at " + deadline, x.waits(guest), deadline <= 200 ? deadline : -1);
                Due.is("62 not the other one", x.waits(3 - guest), -1);
            }
        }
    }

    private static void waitsNext() {
        GuestLevels x = new GuestLevels();
        x.open(1, true);
        x.send(1, 3);
        Due.is("62 not what was TAKEN already", x.waits(1), -1);
        x.timer(1, 5, 3);
        Due.is("62 not while it is IN SERVICE", x.waits(1), -1);
        x.timer(1, 9, 4);
        Due.is("62 a greater one", x.waits(1), 9);
        x.act(1, 10, 0, 0);
        Due.is("62 ENDED ahead of it", x.waits(1), 5);
    }

    /** 63: "the ROOM (1 .. 16) by which the host sees fewest EXITS in n (1 .. 100) times GONE" */
    private static void roomiest() {
        Edges.taken("63 n", 1, 100, n -> Made.fresh().roomiest(n) == 1);
        Edges.others("63 n", 1, 100, -1, n -> Made.fresh().roomiest(n));
    }

    /** n PAGES READ round and round. */
    private static GuestLevels reading(int n) {
        GuestLevels x = Made.straight(16);
        for (int p = 0; p < n; p++) x.act(2, 0, p, 0);
        return x;
    }

    private static void roomiestBounds() {
        for (int n : new int[] {1, 2, 6, 7, 15, 16}) {
            Due.is("63 " + n + " PAGES round and round", reading(n).roomiest(100), n);
            Due.is("63 each once", reading(n).roomiest(n), 1);
            Due.is("63 the first one again", reading(n).roomiest(n + 1), n);
        }
    }

    /** "of like ones the least" */
    private static void roomiestLeast() {
        Due.is("63 all alike", Made.fresh().roomiest(100), 1);
        GuestLevels x = Made.straight(3);
        int[] pages = {0, 1, 0, 2};
        for (int p : pages) x.act(2, 0, p, 0);
        Due.is("63 by 1 four EXITS, by 2 three, by 3 three", x.roomiest(4), 2);
        GuestLevels y = Made.straight(3);
        y.room(16);
        for (int p = 0; p < 3; p++) y.act(2, 0, p, 0);
        Due.is("63 3 to 16 are alike, whatever ROOM is", y.roomiest(100), 3);
    }

    /** "(told now, all FOLDED being gone first)" */
    private static void roomiestFresh() {
        GuestLevels x = reading(2);
        x.run(2);
        Due.is("27 two are FOLDED", x.is(3), 2);
        Due.is("63 as if they weren't", x.roomiest(2), 1);
        Due.is("63 three times", x.roomiest(3), 2);
        Due.is("27 two are FOLDED yet", x.is(3), 2);
        Due.is("27 ROOM stays", x.is(2), 6);
        Due.is("63 EXITS of ahead aren't looked at", x.roomiest(100), 2);
    }

    /** "PLAINLY, n (1 .. 200) ACTS"; 64: "VALUE of an INNER PAGE. NONE for others." */
    private static void plainly() {
        GuestLevels x = new GuestLevels();
        Edges.taken("64 n", 1, 200, n -> x.plainly(n, 0) == 0);
        Edges.others("64 n", 1, 200, -1, n -> x.plainly(n, 0));
        Edges.taken("64 INNER PAGE", 0, 15, p -> x.plainly(1, p) == 0);
        Edges.others("64 INNER PAGE", 0, 15, -1, p -> x.plainly(1, p));
    }

    /** "(at first those at the FRAMES .., whatever RIGHTS; without a FRAME what is STORED for the OUTER PAGE; else 0)" */
    private static void plainlyAtFirst() {
        GuestLevels x = new GuestLevels();
        for (int p = 0; p < 11; p++) x.touch(p, 1, 9000 + p);
        x.entry(1, 0, 0, 1);
        x.entry(1, 1, 5, 2);
        x.entry(1, 2, 11, 7);
        x.entry(1, 15, 10, 4);
        x.entry(2, 5, 5, 4);
        Due.is("64 STORED", x.plainly(1, 0), 9000);
        Due.is("64 at the FRAME, whatever RIGHTS", x.plainly(1, 1), 9005);
        Due.is("64 neither FRAME nor STORED", x.plainly(1, 2), 0);
        Due.is("64 no ENTRY of TABLE 1", x.plainly(1, 3), 0);
        Due.is("64 the greatest INNER PAGE", x.plainly(1, 15), 9010);
    }

    /** "TOUCHED: by TABLE 0 alone (no ENTRY, not that RIGHT: it TRAPS ..), READ, WRITE at the INNER PAGE's VALUE" */
    private static void plainlyByTable0() {
        for (int rights = 0; rights <= 7; rights++) {
            for (int way = 0; way < 3; way++) {
                GuestLevels x = Made.led(rights, 0, 0);
                x.act(2, way, 3, way == 1 ? 9999 : 0);
                boolean has = (rights >> way & 1) == 1;
                String what = " by RIGHTS " + rights + ", WAY " + way;
                Due.is("65" + what, x.plainTraps(1), has ? 0 : 1);
                Due.is("64" + what, x.plainly(1, 5), has && way == 1 ? 9999 : 0);
                Due.is("66" + what, x.plainHeard(1), has && way != 1 ? 0 : -1);
            }
        }
    }

    /** "n ACTS of PROGRAM (2) from its PLACE on": round and round; without ACTS nothing. */
    private static void plainlyRoundAndRound() {
        GuestLevels x = new GuestLevels();
        Due.is("64 without ACTS", x.plainly(200, 0), 0);
        Due.is("65 without ACTS", x.plainTraps(200), 0);
        Due.is("66 without ACTS", x.plainHeard(200), -1);
        x.enter();
        x.entry(0, 0, 15, 7);
        for (int i = 0; i < 24; i++) x.act(2, 1, 0, i + 1);
        for (int n : new int[] {1, 23, 24, 25, 48, 200}) {
            Due.is("64 behind " + n, x.plainly(n, 15), (n - 1) % 24 + 1);
        }
        GuestLevels y = new GuestLevels();
        y.enter();
        y.entry(0, 0, 15, 7);
        for (int i = 0; i < 3; i++) y.act(2, i == 2 ? 1 : 5, 0, i == 2 ? 70 : 0);
        y.run(2);
        Due.is("64 from its PLACE on", y.plainly(1, 15), 70);
        Due.is("27 its PLACE stays", y.is(12), 2);
    }

    /** "INNER PAGES have VALUES of their own" */
    private static void plainlyOwnValues() {
        GuestLevels x = new GuestLevels();
        x.entry(1, 0, 7, 7);
        x.entry(1, 1, 7, 7);
        x.entry(2, 7, 3, 7);
        x.enter();
        x.entry(0, 0, 0, 7);
        x.act(2, 1, 0, 8);
        Due.is("64 WRITTEN", x.plainly(1, 0), 8);
        Due.is("64 not the other one at that FRAME", x.plainly(1, 1), 33);
        Due.is("30 nor the FRAME", x.frame(3), 33);
    }

    /** 65: "how often it TRAPPED. NONE for others." */
    private static void plainTraps() {
        GuestLevels x = new GuestLevels();
        Edges.taken("65 n", 1, 200, n -> x.plainTraps(n) == 0);
        Edges.others("65 n", 1, 200, -1, n -> x.plainTraps(n));
        x.act(2, 0, 15, 0);
        for (int n : new int[] {1, 2, 199, 200}) Due.is("65 each time", x.plainTraps(n), n);
        x.want(0, 1);
        x.want(1, 1);
        Due.is("65 nobody's but its own", x.plainTraps(200), 200);
        Due.is("27 not counted by that", x.is(7), 0);
        Due.is("45 no EXIT by that", x.exit(-1, 0), 0);
    }

    /** "ACTS 6, 8, 9, what is TRAPPED, TRAP PLACE as ever" */
    private static void plainTrapPlace() {
        for (int place : new int[] {-1, 0, 1, 2, 3, 4, 23}) {
            GuestLevels x = new GuestLevels();
            x.act(2, 0, 15, 0);
            x.act(2, 5, 0, 0);
            x.act(2, 8, 4, 0);
            x.act(2, 9, 0, 0);
            x.trapPlace(place);
            String what = "65 TRAP PLACE " + place;
            // none, 1 or beyond: 0 5 8 9 0; 2: 0 8 9 0; 3: 0 9 0 9 ..; 0: 0 0 0 ..
            int due = place == 0 ? 8 : place == 3 ? 4 : 1;
            Due.is(what, x.plainTraps(8), due);
            Due.is("66 TRAP PLACE " + place, x.plainHeard(8), due == 1 ? 0 : -1);
            int heardAt = place == 2 ? 4 : 5;
            if (due == 1) {
                Due.is("66 not ahead of that", x.plainHeard(heardAt - 1), -1);
                Due.is("66 just then", x.plainHeard(heardAt), 0);
            }
        }
    }

    /** "(TABLE 0, TRAPPED as they are at first)" */
    private static void plainTrappedAtFirst() {
        GuestLevels x = Made.entered();
        x.act(2, 8, 15, 0);
        x.act(2, 0, 6, 0);
        Due.is("65 none is TRAPPED: ACT 8 tells nothing", x.plainTraps(2), 1);
        x.touch(6, 0, 0);
        Due.is("65 TRAPPED as it is", x.plainTraps(2), 0);
        x.entry(0, 6, 0, 2);
        x.wipe(2);
        x.act(2, 0, 6, 0);
        Due.is("65 TABLE 0 as it is", x.plainTraps(1), 1);
        GuestLevels y = Made.entered();
        y.act(2, 0, 6, 0);
        y.act(2, 5, 0, 0);
        y.act(2, 9, 0, 0);
        y.run(1);
        Due.is("65 PLACE 0 is TRAPPED: 5 9 0 5 9 0", y.plainTraps(6), 2);
        y.wipe(2);
        y.act(2, 9, 0, 0);
        Due.is("65 ACT 9 alone", y.plainTraps(200), 0);
    }

    /** "others nothing" */
    private static void plainOtherActs() {
        GuestLevels x = new GuestLevels();
        for (int act : new int[] {3, 4, 5, 7}) x.act(2, act, 0, 0);
        x.open(2, true);
        x.send(2, 9);
        Due.is("65 EVENT 0 is no TRAP", x.plainTraps(200), 0);
        Due.is("66 nothing is READ", x.plainHeard(200), -1);
        Due.is("64 nothing is WRITTEN", x.plainly(200, 0), 0);
        Due.is("47 nothing is TAKEN", x.pending(2), 512);
    }

    /** 66: "the VALUE that was READ or RUN latest. NONE: none, and for others." */
    private static void plainHeard() {
        GuestLevels x = Made.straight(10);
        Edges.others("66 n", 1, 200, -1, n -> x.plainHeard(n));
        x.act(2, 1, 9, 9999);
        x.act(2, 0, 9, 0);
        x.act(2, 1, 9, 0);
        x.act(2, 2, 9, 0);
        x.act(2, 0, 15, 0);
        Due.is("66 none", x.plainHeard(1), -1);
        Due.is("66 READ, the greatest VALUE", x.plainHeard(2), 9999);
        Due.is("66 WRITE isn't READ", x.plainHeard(3), 9999);
        Due.is("66 RUN, the least VALUE", x.plainHeard(4), 0);
        Due.is("66 a TRAP isn't READ", x.plainHeard(5), 0);
        Edges.taken("66 n", 2, 200, n -> x.plainHeard(n) != -1);
        Due.is("36 nothing is HEARD by that", x.heard(-1), 0);
    }

    /** 67: "EXITS seen by the host divided by all EXITS as doubles: its bits. 0 without any." */
    private static void share() {
        Due.is("67 without any", Made.fresh().share(), 0L);
        GuestLevels x = new GuestLevels();
        x.touch(0, 0, 0);
        Due.is("67 all", x.share(), Double.doubleToLongBits(1.0));
        x.want(1, 1);
        for (int dealt = 1; dealt <= 60; dealt++) {
            x.enter();
            x.event(0);
            Due.is("67 one of " + (1 + dealt), x.share(), Double.doubleToLongBits(1.0 / (double) (1 + dealt)));
        }
        GuestLevels y = Made.entered();
        y.open(1, true);
        y.send(1, 0);
        Due.is("67 none of one", y.share(), Double.doubleToLongBits(0.0));
    }

    /** All EXITS that are COUNTED, not those written down alone. */
    private static void shareOfMany() {
        GuestLevels x = new GuestLevels();
        x.want(0, 2);
        x.want(1, 1);
        x.act(1, 6, 0, 0);
        x.act(2, 3, 1, 0);
        x.act(2, 3, 1, 0);
        x.act(2, 3, 0, 0);
        for (int i = 0; i < 100; i++) {
            x.run(1 + i % 5);
            int host = x.is(5);
            int all = host + x.is(6);
            long due = all == 0 ? 0L : Double.doubleToLongBits((double) host / (double) all);
            Due.is("67 " + host + " of " + all, x.share(), due);
        }
    }

    /** 68: "THE IMAGE is as all is now: TIME." */
    private static void image() {
        GuestLevels x = new GuestLevels();
        Due.is("68 TIME 0", x.image(), 0);
        x.pass(200);
        Due.is("68 TIME", x.image(), 200);
        Due.is("68 no STEP", x.steps(), 1);
        x.pass(1);
        Due.is("69 to the latest image", x.back(), 200);
        x.undo();
        Due.is("68 behind undo", x.image(), 0);
        x.pass(9);
        Due.is("69 to that one", x.back(), 0);
        GuestLevels y = Made.late();
        y.pass(199);
        Due.is("68 the greatest TIME", y.image(), 99999);
        Due.is("69 the greatest TIME", y.back(), 99999);
    }

    /** 69: "BACK to THE IMAGE": "all is so again" */
    private static void back() {
        GuestLevels x = busy();
        x.run(30);
        x.image();
        int[] due = new int[18];
        for (int what = 0; what < 18; what++) due[what] = x.is(what);
        x.run(200);
        x.wipe(1);
        x.room(1);
        x.touch(15, 1, 9999);
        Due.is("69 TIME", x.back(), 30);
        for (int what = 0; what < 18; what++) Due.is("69 so again: " + what, x.is(what), due[what]);
        Due.is("69 ACTS", x.program(1, -1, 0), 3);
        Due.is("69 TABLE 2", x.told(2, 15, 0), -1);
        Due.is("69 TIMERS", x.timed(-1, 0), 2);
        Due.is("69 undo of what was ahead of it", x.undo() >= 0 ? x.is(1) : -1, 0);
    }

    /** "(it stays)" */
    private static void backStays() {
        GuestLevels x = new GuestLevels();
        x.touch(0, 1, 7);
        x.image();
        for (int i = 0; i < 5; i++) {
            x.touch(0, 1, 100 + i);
            x.pass(3);
            Due.is("69 again", x.back(), 0);
            Due.is("69 VALUE", x.frame(0), 7);
        }
        Due.is("69 twice at once", x.back(), 0);
    }

    /** 70: "STEPS that can be taken back." */
    private static void steps() {
        GuestLevels x = new GuestLevels();
        Due.is("70 none", x.steps(), 0);
        for (int n = 1; n <= 22; n++) {
            x.pass(1);
            Due.is("70 behind " + n, x.steps(), n < 20 ? n : 20);
        }
        for (int n = 19; n >= 0; n--) {
            x.undo();
            Due.is("70 one fewer", x.steps(), n);
        }
        x.undo();
        Due.is("70 none any more", x.steps(), 0);
        x.pass(1);
        Due.is("70 one again", x.steps(), 1);
    }
}
