/** EVENTS, what telling unfolds, DEALT OUT, SWITCHED, SPENT, SEEN, TIME: the edges that their sentences name. */
public final class DealingEdgesTest {
    private DealingEdgesTest() {
    }

    public static void main(String[] args) {
        eventOfInner();
        eventOfOuter();
        table1Unfolds();
        table2Unfolds();
        storedTillTold();
        toldByWhomItBelongsTo();
        dealtOutToOuter();
        dealtOutInLevel2();
        dealtOutInLevel1();
        dealtOutGreater();
        dealtOutOneAtATime();
        dealtOutToInner();
        dealtOutToInnerGreater();
        dealtOutToOuterFirst();
        dealtOutBehindEachStep();
        longest();
        longestOfWhicheverInner();
        ended();
        switchedAtFirst();
        switchedPutsBy();
        switchedKeepsSince();
        switchedUnfolds();
        switchedForgetsReason1();
        switchedLeavesAllElse();
        spent();
        spentAtTheEdges();
        seen();
        timerAtItsDeadline();
        timerOfEachClock();
        timersInOrder();
        timersGoOff();
        timersPendingAlready();
        sliceRunsOut();
        sliceBelowZero();
        sliceInLevel1();
        entered();
        Due.end();
    }

    /** "EVENT k of the inner guest: does the outer guest want it ..; else, does the host want it ..; else .. its own." */
    private static void eventOfInner() {
        for (int k = 0; k < 8; k++) {
            for (int wanted = 0; wanted < 4; wanted++) {
                GuestLevels x = new GuestLevels();
                x.want(0, wanted % 2 == 1 ? 1 << k : 255 - (1 << k));
                x.want(1, wanted / 2 == 1 ? 1 << k : 255 - (1 << k));
                x.enter();
                int due = wanted / 2 == 1 ? 1 : wanted % 2 == 1 ? 0 : 2;
                String what = " EVENT " + k + ", wanted by " + wanted;
                Due.is("44" + what, x.whose(k), due);
                Due.is("10" + what, x.event(k), due);
                Due.is("45 EXITS," + what, x.exit(-1, 0), due == 2 ? 0 : 1);
                Due.is("45 who," + what, x.exit(0, 0), due == 2 ? -2 : due);
                Due.is("45 REASON 4," + what, x.exit(0, 1), due == 2 ? -2 : 4);
                Due.is("45 DETAIL," + what, x.exit(0, 2), due == 2 ? -2 : k);
                Due.is("27 LEVEL," + what, x.is(0), due == 1 ? 1 : 2);
            }
        }
    }

    /** "Of the outer guest: does the host want it, it sees an EXIT (REASON 5, DETAIL k)." */
    private static void eventOfOuter() {
        for (int k = 0; k < 8; k++) {
            GuestLevels x = new GuestLevels();
            x.want(0, 255 - (1 << k));
            x.want(1, 255);
            Due.is("10 not wanted, EVENT " + k, x.event(k), 2);
            Due.is("45 no EXIT", x.exit(-1, 0), 0);
            x.want(0, 1 << k);
            Due.is("10 wanted, EVENT " + k, x.event(k), 0);
            Due.is("45 who", x.exit(0, 0), 0);
            Due.is("45 REASON 5", x.exit(0, 1), 5);
            Due.is("45 DETAIL", x.exit(0, 2), k);
            Due.is("27 LEVEL", x.is(0), 1);
        }
    }

    /** Sixteen INNER PAGES, FOLDED; in LEVEL 1. */
    private static GuestLevels sixteenFolded() {
        GuestLevels x = Made.straight(16);
        Made.leave(x);
        x.room(16);
        x.foldAhead();
        return x;
    }

    /** "Is an ENTRY of TABLE 1 told, FOLDED has none of that INNER PAGE then" */
    private static void table1Unfolds() {
        for (int page = 0; page < 16; page += 15) {
            GuestLevels x = sixteenFolded();
            x.entry(1, page, page, 7);
            Due.is("28 told as it was, INNER PAGE " + page, x.told(3, page, 0), -1);
            Due.is("27 that one alone", x.is(3), 15);
            GuestLevels y = sixteenFolded();
            y.clear(1, page);
            Due.is("28 none any more, INNER PAGE " + page, y.told(3, page, 0), -1);
            Due.is("27 that one alone", y.is(3), 15);
        }
    }

    /** "is one of TABLE 2 told, FOLDED has none of INNER PAGES that TABLE 1 leads to that OUTER PAGE (also when .. GIVEN, or SWAPPED)" */
    private static void table2Unfolds() {
        GuestLevels x = sixteenFolded();
        for (int p = 0; p < 16; p += 5) x.entry(1, p, 15, 7);
        x.foldAhead();
        Due.is("27 all", x.is(3), 16);
        x.entry(2, 15, 5, 7);
        Due.is("27 four lead there", x.is(3), 12);
        x.foldAhead();
        x.clear(2, 15);
        Due.is("27 none any more: likewise", x.is(3), 12);
        x.entry(2, 0, 0, 1);
        Due.is("27 nothing leads to OUTER PAGE 0 any more", x.is(3), 12);
        GuestLevels y = new GuestLevels();
        for (int p = 0; p < 10; p++) y.touch(p, 0, 0);
        y.entry(1, 7, 0, 7);
        y.entry(1, 8, 1, 7);
        y.foldAhead();
        y.touch(10, 0, 0);
        Due.is("28 SWAPPED", y.told(3, 7, 0), -1);
        Due.is("28 not another one", y.told(3, 8, 0), 1);
    }

    /** "is one of TABLE 2 told by hand (or none any more), no VALUE is STORED for its PAGE any more" */
    private static void storedTillTold() {
        GuestLevels x = new GuestLevels();
        for (int p = 0; p < 12; p++) x.touch(p, 1, 60 + p);
        Due.is("32 STORED", x.stored(0), 60);
        Due.no("3 it has no ENTRY", x.clear(2, 0));
        Due.is("32 STORED yet", x.stored(0), 60);
        x.entry(1, 0, 0, 7);
        Due.is("32 not by TABLE 1", x.stored(0), 60);
        x.entry(2, 0, 7, 1);
        Due.is("32 told by hand", x.stored(0), -1);
        Due.is("32 of another one yet", x.stored(1), 61);
        Due.yes("3 none any more", x.clear(2, 0));
        Due.is("32 nor then", x.stored(0), -1);
    }

    /** "An ENTRY is told by whom it belongs to: of TABLE 0 in LEVEL 2 alone, of TABLE 1 in LEVEL 1 alone, of TABLE 2 always." */
    private static void toldByWhomItBelongsTo() {
        GuestLevels x = Made.straight(1);
        Due.yes("2 TABLE 0 in LEVEL 2", x.entry(0, 0, 0, 7));
        Due.no("2 TABLE 1 in LEVEL 2", x.entry(1, 0, 0, 7));
        Due.yes("2 TABLE 2 in LEVEL 2", x.entry(2, 0, 0, 7));
        Due.no("3 TABLE 1 in LEVEL 2", x.clear(1, 0));
        Due.yes("3 TABLE 2 in LEVEL 2", x.clear(2, 0));
        Due.yes("3 TABLE 0 in LEVEL 2", x.clear(0, 0));
        x.entry(0, 0, 0, 7);
        Made.leave(x);
        Due.no("2 TABLE 0 in LEVEL 1", x.entry(0, 0, 0, 7));
        Due.no("3 TABLE 0 in LEVEL 1", x.clear(0, 0));
        Due.yes("2 TABLE 1 in LEVEL 1", x.entry(1, 0, 0, 7));
        Due.yes("3 TABLE 1 in LEVEL 1", x.clear(1, 0));
        Due.yes("2 TABLE 2 in LEVEL 1", x.entry(2, 0, 0, 7));
        Due.yes("3 TABLE 2 in LEVEL 1", x.clear(2, 0));
        Due.is("28 TABLE 0 stays", x.told(0, 0, 0), 0);
    }

    /** "DEALT OUT ..: is a VECTOR PENDING of the outer guest, .. and OPEN (1)" */
    private static void dealtOutToOuter() {
        GuestLevels x = new GuestLevels();
        x.open(1, true);
        Due.is("27 none is PENDING", x.is(9), 0);
        Due.is("53 none was TAKEN", x.taken(1), -1);
        x.open(1, false);
        x.send(1, 0);
        Due.is("47 not OPEN", x.pending(1), 1);
        Due.is("27 not TAKEN", x.is(9), 0);
        x.open(1, true);
        Due.is("47 not PENDING any more", x.pending(1), 0);
        Due.is("48 but IN SERVICE", x.service(1), 1);
        Due.is("53 VECTOR 0", x.taken(1), 0);
        Due.is("27 TAKEN", x.is(9), 1);
    }

    /** "if LEVEL is 2, it is an EXIT dealt to the outer guest (REASON 6, DETAIL that VECTOR)" */
    private static void dealtOutInLevel2() {
        for (int vector = 0; vector < 16; vector++) {
            GuestLevels x = Made.entered();
            x.open(1, true);
            x.send(1, vector);
            Due.is("45 one EXIT", x.exit(-1, 0), 1);
            Due.is("45 dealt", x.exit(0, 0), 1);
            Due.is("45 REASON 6", x.exit(0, 1), 6);
            Due.is("45 DETAIL", x.exit(0, 2), vector);
            Due.is("27 LEVEL", x.is(0), 1);
            Due.is("53 TAKEN", x.taken(1), vector);
        }
    }

    private static void dealtOutInLevel1() {
        GuestLevels x = new GuestLevels();
        x.open(1, true);
        x.send(1, 15);
        Due.is("45 in LEVEL 1 no EXIT", x.exit(-1, 0), 0);
        Due.is("48 but TAKEN", x.service(1), 32768);
    }

    /** "the greatest of these greater than all that are IN SERVICE of it" */
    private static void dealtOutGreater() {
        for (int first = 0; first < 16; first++) {
            for (int next = 0; next < 16; next++) {
                GuestLevels x = new GuestLevels();
                x.open(1, true);
                x.send(1, first);
                x.send(1, next);
                boolean greater = next > first;
                String what = " VECTOR " + next + ", IN SERVICE " + first;
                Due.is("48" + what, x.service(1), greater ? 1 << first | 1 << next : 1 << first);
                Due.is("47" + what, x.pending(1), greater ? 0 : 1 << next);
            }
        }
    }

    /** The greatest that is PENDING is looked at, and one is TAKEN each time. */
    private static void dealtOutOneAtATime() {
        GuestLevels x = new GuestLevels();
        for (int v = 0; v < 16; v++) x.send(1, v);
        x.open(1, true);
        Due.is("48 the greatest alone", x.service(1), 32768);
        Due.is("47 the others wait", x.pending(1), 32767);
        x.pass(5);
        Due.is("48 no other ahead of its end", x.service(1), 32768);
        for (int v = 15; v > 0; v--) {
            Due.is("14 ENDED", x.finish(), v);
            Due.is("48 the next one", x.service(1), 1 << v - 1);
        }
        Due.is("14 the last", x.finish(), 0);
        Due.is("14 none any more", x.finish(), -1);
        Due.is("27 all were TAKEN", x.is(9), 16);
    }

    /** "Then, if LEVEL is 2, likewise of the inner guest, its VECTORS, and OPEN (2): TAKEN by the inner guest." */
    private static void dealtOutToInner() {
        GuestLevels x = new GuestLevels();
        x.send(2, 0);
        x.open(2, true);
        Due.is("47 not in LEVEL 1", x.pending(2), 1);
        x.enter();
        Due.is("48 in LEVEL 2", x.service(2), 1);
        Due.is("47 PENDING no more", x.pending(2), 0);
        Due.is("45 no EXIT by that", x.exit(-1, 0), 0);
        Due.is("53 TAKEN by the inner guest", x.taken(2), 0);
        Due.is("53 not by the outer one", x.taken(1), -1);
        Due.is("27 counted of the inner one", x.is(10), 1);
        Due.is("27 not of the outer one", x.is(9), 0);
        GuestLevels y = new GuestLevels();
        y.send(2, 15);
        y.open(1, true);
        y.enter();
        Due.is("47 OPEN (2) is false", y.pending(2), 32768);
        y.open(2, true);
        Due.is("48 is true", y.service(2), 32768);
    }

    private static void dealtOutToInnerGreater() {
        for (int first = 0; first < 16; first += 3) {
            for (int next = 0; next < 16; next++) {
                GuestLevels x = new GuestLevels();
                x.open(2, true);
                x.send(2, first);
                x.enter();
                Made.leave(x);
                x.send(2, next);
                x.enter();
                boolean greater = next > first;
                String what = " inner VECTOR " + next + ", IN SERVICE " + first;
                Due.is("48" + what, x.service(2), greater ? 1 << first | 1 << next : 1 << first);
                Due.is("47" + what, x.pending(2), greater ? 0 : 1 << next);
            }
        }
    }

    /** Both could take one in LEVEL 2: the outer guest does, and LEVEL is 1 then. */
    private static void dealtOutToOuterFirst() {
        GuestLevels x = new GuestLevels();
        x.send(1, 0);
        x.send(2, 15);
        x.open(2, true);
        x.enter();
        Due.is("53 the outer guest isn't OPEN", x.taken(2), 15);
        GuestLevels y = new GuestLevels();
        y.timer(1, 1, 0);
        y.timer(2, 1, 15);
        y.open(1, true);
        y.open(2, true);
        y.enter();
        y.pass(1);
        Due.is("53 the outer guest's", y.taken(1), 0);
        Due.is("53 not the inner one's", y.taken(2), -1);
        Due.is("27 LEVEL", y.is(0), 1);
        y.enter();
        Due.is("53 the inner one's then", y.taken(2), 15);
    }

    /** "behind each ACT and each of what is told by hand as a STEP" */
    private static void dealtOutBehindEachStep() {
        GuestLevels x = new GuestLevels();
        x.open(2, true);
        x.send(2, 3);
        x.send(2, 2);
        x.enter();
        Due.is("48 behind enter", x.service(2), 8);
        x.finish();
        Due.is("48 behind finish", x.service(2), 4);
        GuestLevels y = new GuestLevels();
        y.timer(1, 3, 1);
        y.open(1, true);
        y.pass(3);
        Due.is("48 behind each TIME that passes", y.service(1), 2);
        Due.is("54 at once", y.longest(1), 0);
        GuestLevels z = new GuestLevels();
        z.send(1, 4);
        z.act(1, 4, 0, 0);
        z.run(1);
        Due.is("48 behind an ACT", z.service(1), 16);
    }

    /** "LONGEST of a guest (1), (2): the most TIME that was between coming to be PENDING and being TAKEN" */
    private static void longest() {
        GuestLevels x = new GuestLevels();
        Due.is("54 none was TAKEN", x.longest(1), -1);
        x.send(1, 1);
        x.pass(9);
        Due.is("54 none was TAKEN yet", x.longest(1), -1);
        x.undo();
        x.open(1, true);
        Due.is("54 TAKEN at once", x.longest(1), 0);
        Due.is("54 of the other guest none", x.longest(2), -1);
        x.open(1, false);
        x.send(1, 9);
        x.pass(5);
        x.open(1, true);
        Due.is("54 more", x.longest(1), 5);
        x.open(1, false);
        x.send(1, 10);
        x.pass(4);
        x.open(1, true);
        Due.is("54 less: the most", x.longest(1), 5);
        x.open(1, false);
        x.send(1, 11);
        x.pass(6);
        x.open(1, true);
        Due.is("54 more again", x.longest(1), 6);
    }

    /** "(of (2): of whichever inner guest)" */
    private static void longestOfWhicheverInner() {
        GuestLevels x = new GuestLevels();
        for (int guest = 0; guest < 3; guest++) {
            if (guest > 0) x.hand(guest);
            x.open(2, true);
            x.send(2, guest);
            x.pass(guest == 1 ? 7 : 2);
            x.enter();
            Due.is("54 behind inner guest " + guest, x.longest(2), guest == 0 ? 2 : 7);
            Made.leave(x);
        }
    }

    /** "ENDED, by a guest: the greatest VECTOR that is IN SERVICE of it is so no more (none is: nothing)." */
    private static void ended() {
        GuestLevels x = new GuestLevels();
        x.open(1, true);
        x.open(2, true);
        x.send(1, 0);
        x.send(1, 15);
        x.send(2, 7);
        Due.is("14 the greatest", x.finish(), 15);
        Due.is("48 the other one is yet", x.service(1), 1);
        x.enter();
        Due.is("14 the inner one's in LEVEL 2", x.finish(), 7);
        Due.is("14 none of the inner one's", x.finish(), -1);
        Due.is("48 the outer one's stays", x.service(1), 1);
        x.act(2, 7, 0, 0);
        x.run(1);
        Due.is("48 by an ACT, none is: nothing", x.service(2), 0);
        x.send(1, 8);
        x.act(1, 10, 0, 0);
        x.run(3);
        Due.is("48 by ACTS of the outer one", x.service(1), 0);
    }

    /** "those that were put by for the other one come (at first all as at first)" */
    private static void switchedAtFirst() {
        GuestLevels x = busyInner();
        x.hand(1);
        Due.is("28 TABLE 0", x.told(0, 1, 0), -1);
        Due.is("28 TABLE 1", x.told(1, 2, 0), -1);
        Due.is("59 PROGRAM (2)", x.program(2, -1, 0), 0);
        Due.is("27 its PLACE", x.is(12), 0);
        Due.is("47 PENDING", x.pending(2), 0);
        Due.is("48 IN SERVICE", x.service(2), 0);
        Due.no("52 OPEN", x.isOpen(2));
        Due.is("35 TRAP PLACE", x.trapped(2), -1);
        Due.is("35 the VIRTUAL PAGE that is TRAPPED", x.trapped(0), -1);
        Due.is("35 the PLACE that is TRAPPED", x.trapped(1), -1);
        Due.is("56 SCALE and OFFSET", x.clock(2), x.clock(1));
        for (int what = 0; what < 7; what++) Due.is("49 inner guest 2: " + what, x.putBy(2, what), 0);
    }

    /** An inner guest of whom nothing is as at first; LEVEL 1. */
    private static GuestLevels busyInner() {
        GuestLevels x = new GuestLevels();
        x.entry(1, 2, 3, 5);
        x.act(2, 4, 0, 0);
        x.act(2, 0, 9, 0);
        x.act(2, 5, 0, 0);
        x.act(2, 4, 0, 0);
        x.trapPlace(3);
        x.scale(2, 32, 100);
        x.send(2, 6);
        x.enter();
        x.entry(0, 1, 2, 3);
        x.run(2);
        x.open(1, true);
        x.send(1, 0);
        x.open(1, false);
        x.send(2, 5);
        return x;
    }

    /** "TABLES 0 and 1, PROGRAM (2) and its PLACE, .. are put by for the one that was IN HAND" */
    private static void switchedPutsBy() {
        GuestLevels x = busyInner();
        x.hand(2);
        x.hand(1);
        x.pass(3);
        int[] due = {1, 1, 3, 32, 64, 1, 4};
        for (int what = 0; what < 7; what++) Due.is("49 put by: " + what, x.putBy(0, what), due[what]);
        x.hand(0);
        Due.is("28 TABLE 0", x.told(0, 1, 0), 2);
        Due.is("28 its RIGHTS", x.told(0, 1, 1), 3);
        Due.is("28 TABLE 1", x.told(1, 2, 0), 3);
        Due.is("28 its RIGHTS", x.told(1, 2, 1), 5);
        Due.is("59 PROGRAM (2)", x.program(2, -1, 0), 4);
        Due.is("59 an ACT", x.program(2, 1, 1), 9);
        Due.is("27 its PLACE", x.is(12), 3);
        Due.is("47 PENDING", x.pending(2), 32);
        Due.is("48 IN SERVICE", x.service(2), 64);
        Due.yes("52 OPEN", x.isOpen(2));
        Due.is("35 TRAP PLACE", x.trapped(2), 3);
        Due.is("35 the VIRTUAL PAGE that is TRAPPED", x.trapped(0), 9);
        Due.is("35 the PLACE that is TRAPPED", x.trapped(1), 1);
        Due.is("56 SCALE and OFFSET", x.clock(2), 2 * x.clock(1) + 100);
    }

    /** "since when VECTORS are PENDING (2)" */
    private static void switchedKeepsSince() {
        GuestLevels x = new GuestLevels();
        x.send(2, 0);
        x.pass(4);
        x.hand(1);
        Due.is("55 of the other one", x.pendingFor(2, 0), -1);
        x.pass(2);
        x.send(2, 0);
        x.pass(3);
        Due.is("55 its own", x.pendingFor(2, 0), 3);
        x.hand(0);
        Due.is("55 from the first on", x.pendingFor(2, 0), 9);
    }

    /** "nothing is FOLDED then" */
    private static void switchedUnfolds() {
        GuestLevels x = sixteenFolded();
        Due.is("27 FOLDED", x.is(3), 16);
        x.hand(2);
        Due.is("27 nothing", x.is(3), 0);
        x.hand(0);
        Due.is("27 nor then", x.is(3), 0);
        Due.is("40 all are LAZY", x.lazy(), 65535);
        GuestLevels y = sixteenFolded();
        y.hand(0);
        Due.is("27 IN HAND already: all stay", y.is(3), 16);
    }

    /** "no INNER PAGE is that of an EXIT by REASON 1 (for ACT 9)" */
    private static void switchedForgetsReason1() {
        for (int guest = 0; guest < 3; guest += 2) {
            GuestLevels x = Made.entered();
            x.entry(0, 0, 11, 7);
            x.touch(0, 0, 0);
            x.act(1, 9, 4, 0);
            x.hand(2);
            if (guest == 0) x.hand(0);
            x.run(1);
            Due.is("25 ACT 9: nothing", x.told(1, 11, 0), -1);
        }
        GuestLevels y = Made.entered();
        y.entry(0, 0, 11, 7);
        y.touch(0, 0, 0);
        y.act(1, 9, 4, 0);
        y.run(1);
        Due.is("25 ACT 9 without that", y.told(1, 11, 0), 4);
    }

    /** "All else (TIMERS, too) stays." */
    private static void switchedLeavesAllElse() {
        GuestLevels x = busyInner();
        x.timer(2, 5000, 7);
        x.touch(8, 1, 80);
        x.handler(8, 12);
        x.slice(33);
        x.want(1, 9);
        x.room(4);
        x.hand(1);
        Due.is("57 TIMERS", x.timed(0, 1), 5000);
        Due.is("28 TABLE 2", x.told(2, 8, 0), 0);
        Due.is("30 VALUES", x.frame(0), 80);
        Due.is("31 HANDLERS", x.handled(8), 12);
        Due.is("27 SLICE", x.is(13), 33);
        Due.is("43 WANTED", x.wanted(1), 9);
        Due.is("27 ROOM", x.is(2), 4);
        Due.is("53 TAKEN", x.taken(2), 6);
        Due.is("54 LONGEST", x.longest(2), 1);
        Due.is("27 TRAPS", x.is(7), 1);
        Due.is("50 SPENT", x.spent(1), 2);
        Due.is("48 IN SERVICE (1)", x.service(1), 1);
    }

    /** "SPENT: each TIME that goes on is put down to the outer guest .., or to the inner one that is IN HAND (LEVEL 2)." */
    private static void spent() {
        GuestLevels x = new GuestLevels();
        for (int by = 0; by < 4; by++) Due.is("50 none at first", x.spent(by), 0);
        for (int guest = 0; guest < 3; guest++) {
            if (guest > 0) x.hand(guest);
            x.pass(1);
            x.enter();
            x.pass(10 + guest);
            x.run(1);
            Made.leave(x);
        }
        Due.is("50 the outer guest", x.spent(0), 3);
        for (int guest = 0; guest < 3; guest++) Due.is("50 inner guest " + guest, x.spent(1 + guest), 11 + guest);
    }

    private static void spentAtTheEdges() {
        GuestLevels x = new GuestLevels();
        x.act(1, 6, 0, 0);
        x.run(1);
        Due.is("50 TIME goes on ahead of the ACT", x.spent(0), 1);
        x.run(1);
        Due.is("50 then it is the inner one's", x.spent(1), 1);
        x.open(1, true);
        x.timer(1, 3, 1);
        x.run(1);
        Due.is("50 the TIMER is due behind that", x.spent(1), 2);
        GuestLevels y = Made.late();
        y.pass(199);
        Due.is("50 all TIME", y.spent(0), 99999);
    }

    /** "SEEN: of each EVENT 0 .. 7, as it comes of the inner guest (TRAPS, too) or of the outer one, how often .." */
    private static void seen() {
        for (int k = 0; k < 8; k++) {
            GuestLevels x = new GuestLevels();
            for (int by = 0; by < 3; by++) Due.is("51 none at first", x.seenOf(k, by), 0);
            x.event(k);
            x.want(0, 1 << k);
            x.event(k);
            x.event(k);
            x.enter();
            x.event(k);
            x.want(0, 0);
            x.event(k);
            Made.leave(x);
            x.want(1, 1 << k);
            x.event(k);
            x.enter();
            x.event(k);
            int[] due = {3, 1, 3};
            for (int by = 0; by < 3; by++) Due.is("51 EVENT " + k + " by " + by, x.seenOf(k, by), due[by]);
            Due.is("51 no other EVENT", x.seenOf((k + 1) % 8, 2), 0);
        }
        GuestLevels y = Made.entered();
        y.touch(0, 0, 0);
        Due.is("51 a TRAP", y.seenOf(0, 2), 1);
        y.want(0, 1);
        y.touch(0, 0, 0);
        Due.is("51 a TRAP that the host sees", y.seenOf(0, 0), 1);
        Due.is("27 how often it TRAPPED and nobody wanted it", y.is(7), 1);
    }

    /** "TIME goes on by 1: then each TIMER whose LEVEL's CLOCK is at its DEADLINE or beyond is due" */
    private static void timerAtItsDeadline() {
        for (int level = 0; level < 3; level++) {
            GuestLevels x = new GuestLevels();
            x.pass(10);
            x.timer(level, 12, 1);
            Due.is("22 not yet", x.pass(1), 0);
            Due.is("22 at its DEADLINE", x.pass(1), 1);
            Due.is("22 gone", x.pass(1), 0);
            x.timer(level, 5, 1);
            Due.is("57 not ahead of TIME going on", x.timed(-1, 0), 1);
            Due.is("22 beyond it", x.pass(1), 1);
            x.timer(level, 15, 1);
            Due.is("22 the next TIME", x.pass(1), 1);
        }
    }

    private static void timerOfEachClock() {
        GuestLevels x = new GuestLevels();
        x.scale(1, 8, 0);
        x.scale(2, 8, 0);
        for (int level = 0; level < 3; level++) x.timer(level, 5, level);
        int[] due = {5, 10, 20};
        for (int level = 0; level < 3; level++) Due.is("57 DUE by LEVEL " + level, x.timed(level, 3), due[level]);
        Due.is("22 none", x.pass(4), 0);
        Due.is("22 the host's", x.pass(1), 1);
        Due.is("22 none", x.pass(4), 0);
        Due.is("22 the outer one's", x.pass(1), 1);
        Due.is("22 none", x.pass(9), 0);
        Due.is("22 the inner one's", x.pass(1), 1);
        GuestLevels y = new GuestLevels();
        y.scale(2, 16, -50);
        y.timer(2, 1, 1);
        y.hand(1);
        Due.is("57 by the CLOCK of the one IN HAND", y.timed(0, 3), 1);
        y.hand(0);
        Due.is("57 by its own", y.timed(0, 3), 51);
    }

    /** "in order (by the CLOCKS' LEVELS, the host's first; then the least DEADLINE; then the one told first) each is gone" */
    private static void timersInOrder() {
        GuestLevels x = new GuestLevels();
        int[][] told = {{0, 1, 0}, {0, -99999, 1}, {0, 1, 2}, {0, 0, 3}, {0, 0, 4}, {0, -1, 5}};
        for (int[] t : told) x.timer(t[0], t[1], t[2]);
        x.pass(1);
        int[] due = {1, 5, 3, 4, 0, 2};
        for (int i = 0; i < 6; i++) Due.is("45 in order", x.exit(i, 2), due[i]);
        Due.is("57 all are gone", x.timed(-1, 0), 0);
        GuestLevels y = new GuestLevels();
        y.timer(2, -5, 1);
        y.timer(1, 0, 2);
        y.timer(0, 1, 3);
        Due.is("58 the host's first", y.first(), 2);
        y.cancel(2);
        Due.is("58 then the outer one's", y.first(), 1);
        y.cancel(1);
        Due.is("58 then the inner one's", y.first(), 0);
        y.cancel(0);
        Due.is("58 none", y.first(), -1);
    }

    /** "of LEVEL 0: the host sees an EXIT (REASON 7, DETAIL the VECTOR); of LEVEL 1, 2: its VECTOR is PENDING of that guest" */
    private static void timersGoOff() {
        for (int vector = 0; vector < 16; vector += 15) {
            GuestLevels x = new GuestLevels();
            for (int level = 0; level < 3; level++) x.timer(level, 1, vector);
            Due.is("22 three", x.pass(1), 3);
            Due.is("45 one EXIT", x.exit(-1, 0), 1);
            Due.is("45 the host", x.exit(0, 0), 0);
            Due.is("45 REASON 7", x.exit(0, 1), 7);
            Due.is("45 DETAIL", x.exit(0, 2), vector);
            Due.is("45 TIME", x.exit(0, 3), 1);
            Due.is("47 of the outer guest", x.pending(1), 1 << vector);
            Due.is("47 of the inner one", x.pending(2), 1 << vector);
        }
        GuestLevels y = Made.entered();
        y.timer(0, 1, 3);
        y.timer(2, 1, 3);
        y.pass(1);
        Due.is("27 LEVEL stays", y.is(0), 2);
        Due.is("47 of the inner one in LEVEL 2, too", y.pending(2), 8);
    }

    /** A TIMER's VECTOR that is PENDING already, or IN SERVICE. */
    private static void timersPendingAlready() {
        GuestLevels x = new GuestLevels();
        x.send(1, 4);
        x.timer(1, 3, 4);
        Due.is("22 due", x.pass(5), 1);
        Due.is("47 PENDING once", x.pending(1), 16);
        Due.is("55 since it came to be so", x.pendingFor(1, 4), 5);
        x.open(1, true);
        Due.is("27 TAKEN once", x.is(9), 1);
        Due.is("54 from the first on", x.longest(1), 5);
        x.timer(1, 6, 4);
        x.pass(1);
        Due.is("47 IN SERVICE, and PENDING again", x.pending(1), 16);
        x.finish();
        Due.is("27 TAKEN twice", x.is(9), 2);
    }

    /** "Then, in LEVEL 2, if SLICE isn't 0: LEFT is one less; is it 0 .., an EXIT dealt to the outer guest (REASON 8, DETAIL SLICE)." */
    private static void sliceRunsOut() {
        for (int slice : new int[] {1, 2, 98, 99}) {
            GuestLevels x = new GuestLevels();
            x.slice(slice);
            x.enter();
            if (slice > 1) x.pass(slice - 1);
            Due.is("27 LEVEL ahead, SLICE " + slice, x.is(0), 2);
            Due.is("27 one is LEFT, SLICE " + slice, x.is(14), 1);
            Due.is("45 no EXIT, SLICE " + slice, x.exit(-1, 0), 0);
            x.pass(1);
            Due.is("27 LEVEL then, SLICE " + slice, x.is(0), 1);
            Due.is("45 dealt", x.exit(0, 0), 1);
            Due.is("45 REASON 8", x.exit(0, 1), 8);
            Due.is("45 DETAIL", x.exit(0, 2), slice);
            Due.is("45 TIME", x.exit(0, 3), slice);
            Due.is("27 none is LEFT", x.is(14), 0);
        }
        GuestLevels y = Made.entered();
        y.pass(200);
        Due.is("27 SLICE 0: never", y.is(0), 2);
        Due.is("27 LEFT isn't less by SLICE 0", y.is(14), 0);
    }

    /** "(or below)" */
    private static void sliceBelowZero() {
        GuestLevels x = Made.entered();
        x.slice(99);
        Due.is("27 LEFT is of the SLICE that it was ENTERED by", x.is(14), 0);
        x.pass(1);
        Due.is("27 LEFT below 0", x.is(14), -1);
        Due.is("27 LEVEL", x.is(0), 1);
        Due.is("45 DETAIL", x.exit(0, 2), 99);
        GuestLevels y = new GuestLevels();
        y.slice(5);
        y.enter();
        y.slice(2);
        y.pass(4);
        Due.is("27 LEFT of five yet", y.is(0), 2);
        y.pass(1);
        Due.is("45 DETAIL is the SLICE then", y.exit(0, 2), 2);
        GuestLevels z = new GuestLevels();
        z.slice(1);
        z.enter();
        z.slice(0);
        z.pass(9);
        Due.is("27 SLICE 0 then: never", z.is(0), 2);
        Due.is("27 LEFT stays", z.is(14), 1);
    }

    private static void sliceInLevel1() {
        GuestLevels x = new GuestLevels();
        x.slice(3);
        x.enter();
        x.pass(1);
        Made.leave(x);
        x.pass(9);
        Due.is("27 not in LEVEL 1", x.is(14), 2);
        Due.is("46 no EXIT of REASON 8", x.exits(8), 0);
        GuestLevels y = new GuestLevels();
        y.slice(1);
        y.timer(1, 1, 7);
        y.open(1, true);
        y.enter();
        y.pass(1);
        Due.is("45 SLICE ahead of what is DEALT OUT", y.exit(0, 1), 8);
        Due.is("45 in LEVEL 1 no EXIT by the VECTOR", y.exit(-1, 0), 1);
        Due.is("48 but TAKEN", y.service(1), 128);
    }

    /** "ENTERED: LEVEL is 2, LEFT is SLICE." */
    private static void entered() {
        for (int slice : new int[] {0, 1, 99}) {
            GuestLevels x = new GuestLevels();
            x.slice(slice);
            Due.yes("11 in LEVEL 1", x.enter());
            Due.is("27 LEVEL", x.is(0), 2);
            Due.is("27 LEFT", x.is(14), slice);
            Due.no("11 not in LEVEL 2", x.enter());
            Due.is("70 no STEP by that", x.steps(), 2);
        }
        GuestLevels y = new GuestLevels();
        y.slice(9);
        y.enter();
        y.pass(4);
        Made.leave(y);
        y.enter();
        Due.is("27 LEFT is SLICE again", y.is(14), 9);
    }
}
