/** Part II: ACTS, GONE, STEPS: the edges that their sentences name. */
public final class ProgramsEdgesTest {
    private ProgramsEdgesTest() {
    }

    public static void main(String[] args) {
        actsAtMost();
        actsRoundAndRound();
        actsEachFromItsPlace();
        actsThereAre();
        actsTaken();
        actsThatTouch();
        actsOpen();
        actEvent();
        actEntered();
        actTellsTable1();
        actSendsToInner();
        actTellsMissedPage();
        actEnds();
        actSwitches();
        actTellsTable0();
        actTellsTrappedPage();
        actGoesToTrapped();
        goneTimes();
        goneWithoutActs();
        goneDealsOutFirst();
        goneByTheLevelAtHand();
        goneDealtByReason1();
        goneDealtOtherwise();
        goneTraps();
        goneTrapsOfOthers();
        goneTrapPlace();
        stepsAtMost();
        stepsOfEachSort();
        stepsNot();
        stepRoom();
        stepEntered();
        stepVectors();
        stepEnded();
        stepWiped();
        stepsAreTakenBack();
        stepsTakeBackTheLatestOf24();
        stepsTakeBackSince();
        stepsTakeBackTrapped();
        stepsTakeBackReason1();
        Due.end();
    }

    /** "ACTS, 24 at most" */
    private static void actsAtMost() {
        for (int guest = 1; guest <= 2; guest++) {
            GuestLevels x = new GuestLevels();
            Due.is("59 none at first", x.program(guest, -1, 0), 0);
            for (int i = 1; i <= 24; i++) Due.is("23 how many it has", x.act(guest, 0, i % 16, 0), i);
            int steps = x.steps();
            Due.is("23 not a twenty-fifth", x.act(guest, 0, 0, 0), -1);
            Due.is("70 no STEP by that", x.steps(), steps);
            Due.is("59 twenty-four", x.program(guest, -1, 0), 24);
            Due.is("59 the last", x.program(guest, 23, 1), 8);
            Due.is("59 no other", x.program(guest, 24, 1), -2);
            Due.is("23 the other PROGRAM", x.act(3 - guest, 0, 0, 0), 1);
            Due.is("24 twenty-four", x.wipe(guest), 24);
            Due.is("23 one again", x.act(guest, 0, 0, 0), 1);
        }
    }

    /** "gone through round and round" */
    private static void actsRoundAndRound() {
        for (int guest = 1; guest <= 2; guest++) {
            for (int acts : new int[] {1, 2, 24}) {
                GuestLevels x = new GuestLevels();
                for (int i = 0; i < acts; i++) x.act(guest, 5, 0, 0);
                if (guest == 2) x.enter();
                if (acts > 1) x.run(acts - 1);
                Due.is("27 at the last PLACE of " + acts, x.is(10 + guest), acts - 1);
                x.run(1);
                Due.is("27 behind the last the first of " + acts, x.is(10 + guest), 0);
            }
        }
        GuestLevels y = new GuestLevels();
        y.act(1, 5, 0, 0);
        y.run(1);
        y.act(1, 5, 0, 0);
        y.run(1);
        Due.is("27 an ACT that came at the end", y.is(11), 1);
    }

    /** "each from a PLACE of its own (at first 0)" */
    private static void actsEachFromItsPlace() {
        GuestLevels x = new GuestLevels();
        Due.is("27 (1) at first", x.is(11), 0);
        Due.is("27 (2) at first", x.is(12), 0);
        for (int i = 0; i < 5; i++) {
            x.act(1, 5, 0, 0);
            x.act(2, 5, 0, 0);
        }
        x.run(2);
        x.enter();
        x.run(3);
        Due.is("27 (1)", x.is(11), 2);
        Due.is("27 (2)", x.is(12), 3);
    }

    /** ACTS of the outer guest are 0 .. 11, of the inner one 0 .. 9. */
    private static void actsThereAre() {
        Edges.taken("23 ACT of the outer guest", 0, 11, act -> Made.fresh().act(1, act, 0, 0) == 1);
        Edges.taken("23 ACT of the inner one", 0, 9, act -> Made.fresh().act(2, act, 0, 0) == 1);
        Edges.taken("23 guest", 1, 2, guest -> Made.fresh().act(guest, 0, 0, 0) == 1);
    }

    /** "(a, b 0 .. 15; b of 1 0 .. 9999; a of 3 0 .. 7; a of 11 0 .. 2; what isn't needed 0.)" */
    private static void actsTaken() {
        int[][] mostOfA = {{15, 15, 15, 7, 0, 0, 0, 15, 15, 15, 0, 2}, {15, 15, 15, 7, 0, 0, 15, 0, 15, 0}};
        int[][] mostOfB = {{0, 9999, 0, 0, 0, 0, 0, 15, 0, 0, 0, 0}, {0, 9999, 0, 0, 0, 0, 15, 0, 0, 0}};
        for (int guest = 1; guest <= 2; guest++) {
            for (int act = 0; act < mostOfA[guest - 1].length; act++) {
                int of = guest;
                int which = act;
                int mostA = mostOfA[guest - 1][act];
                int mostB = mostOfB[guest - 1][act];
                String what = " of ACT " + act + ", guest " + guest;
                Edges.taken("23 a" + what, 0, mostA, a -> Made.fresh().act(of, which, a, 0) == 1);
                Edges.taken("23 b" + what, 0, mostB, b -> Made.fresh().act(of, which, 0, b) == 1);
                GuestLevels x = new GuestLevels();
                x.act(guest, act, mostA, mostB);
                Due.is("59 the ACT" + what, x.program(guest, 0, 0), act);
                Due.is("59 a" + what, x.program(guest, 0, 1), mostA);
                Due.is("59 b" + what, x.program(guest, 0, 2), mostB);
            }
        }
    }

    /** "0 TOUCHED a (READ), 1 TOUCHED a (WRITE b), 2 TOUCHED a (RUN)" */
    private static void actsThatTouch() {
        for (int page = 0; page < 16; page += 15) {
            for (int act = 0; act < 3; act++) {
                GuestLevels x = new GuestLevels();
                x.act(1, act, page, act == 1 ? 9999 : 0);
                Due.is("25 an EXIT", x.run(1), 1);
                Due.is("45 DETAIL", x.exit(0, 2), 64 + 4 * page + act);
                Due.is("30 VALUE", x.frame(0), act == 1 ? 9999 : 0);
                GuestLevels y = Made.straight(16);
                y.act(2, act, page, act == 1 ? 9999 : 0);
                Due.is("25 an EXIT", y.run(1), 1);
                Due.is("45 DETAIL", y.exit(0, 2), 4 * page + act);
                Due.is("30 VALUE", y.frame(page % 10), act == 1 ? 9999 : page % 10 * 11);
                Due.is("36 HEARD", y.heard(-1), act == 1 ? 0 : 1);
            }
        }
    }

    /** "4 OPEN (of its own) is true, 5 false" */
    private static void actsOpen() {
        for (int guest = 1; guest <= 2; guest++) {
            GuestLevels x = new GuestLevels();
            x.act(guest, 4, 0, 0);
            x.act(guest, 5, 0, 0);
            if (guest == 2) x.enter();
            x.run(1);
            Due.yes("52 its own is true", x.isOpen(guest));
            Due.no("52 not the other one's", x.isOpen(3 - guest));
            x.open(3 - guest, true);
            x.run(1);
            Due.no("52 its own is false", x.isOpen(guest));
            Due.yes("52 the other one's stays", x.isOpen(3 - guest));
        }
    }

    /** "3 EVENT a" */
    private static void actEvent() {
        for (int k = 0; k < 8; k += 7) {
            GuestLevels x = new GuestLevels();
            x.act(1, 3, k, 0);
            x.act(2, 3, k, 0);
            x.run(1);
            Due.is("51 of the outer guest", x.seenOf(k, 2), 1);
            x.enter();
            x.want(0, 1 << k);
            x.run(1);
            Due.is("51 of the inner one", x.seenOf(k, 0), 1);
            Due.is("45 REASON 4", x.exit(0, 1), 4);
            Due.is("27 EVENT 0 alone doesn't TRAP", x.is(7), 0);
        }
    }

    /** "Of the outer one, too: 6 ENTERED" */
    private static void actEntered() {
        GuestLevels x = new GuestLevels();
        x.act(1, 6, 0, 0);
        x.slice(99);
        x.run(1);
        Due.is("27 LEVEL", x.is(0), 2);
        Due.is("27 LEFT", x.is(14), 99);
    }

    /** "7 TABLE 1 told: INNER PAGE a to OUTER PAGE b, all RIGHTS" */
    private static void actTellsTable1() {
        GuestLevels x = new GuestLevels();
        x.entry(1, 15, 15, 1);
        x.entry(2, 15, 0, 7);
        x.foldAhead();
        x.act(1, 7, 15, 0);
        x.act(1, 7, 0, 15);
        x.run(2);
        Due.is("28 INNER PAGE 15", x.told(1, 15, 0), 0);
        Due.is("28 all RIGHTS", x.told(1, 15, 1), 7);
        Due.is("28 INNER PAGE 0", x.told(1, 0, 0), 15);
        Due.is("28 FOLDED no more", x.told(3, 15, 0), -1);
    }

    /** "8 VECTOR a is PENDING of the inner guest" */
    private static void actSendsToInner() {
        GuestLevels x = new GuestLevels();
        x.act(1, 8, 0, 0);
        x.act(1, 8, 15, 0);
        x.run(2);
        Due.is("47 VECTORS 0 and 15", x.pending(2), 32769);
        Due.is("55 since its ACT", x.pendingFor(2, 0), 1);
        x.run(2);
        Due.is("47 PENDING already", x.pending(2), 32769);
        Due.is("55 since it came to be so", x.pendingFor(2, 0), 3);
    }

    /** "9 TABLE 1 told: the INNER PAGE of the latest EXIT that was dealt by REASON 1 (none yet: nothing) to OUTER PAGE a" */
    private static void actTellsMissedPage() {
        GuestLevels x = new GuestLevels();
        x.act(1, 9, 15, 0);
        x.run(1);
        for (int p = 0; p < 16; p++) Due.is("28 none yet: nothing", x.told(1, p, 0), -1);
        int[] pages = {0, 15, 6};
        for (int page : pages) {
            x.enter();
            x.entry(0, 1, page, 7);
            x.touch(1, 0, 0);
            x.run(1);
            Due.is("28 INNER PAGE " + page, x.told(1, page, 0), 15);
            Due.is("28 all RIGHTS", x.told(1, page, 1), 7);
        }
        x.clear(1, 6);
        x.run(1);
        Due.is("28 the latest one yet", x.told(1, 6, 0), 15);
        x.want(1, 2);
        x.clear(1, 6);
        x.enter();
        x.event(1);
        x.run(1);
        Due.is("28 not by REASON 4", x.told(1, 6, 0), 15);
    }

    /** "10 ENDED", "7 ENDED" (none is: nothing) */
    private static void actEnds() {
        GuestLevels x = new GuestLevels();
        x.act(1, 10, 0, 0);
        x.run(1);
        Due.is("48 none is: nothing", x.service(1), 0);
        x.open(1, true);
        x.send(1, 0);
        x.send(1, 1);
        x.run(1);
        Due.is("48 the greatest", x.service(1), 1);
        x.run(1);
        Due.is("48 the last", x.service(1), 0);
        GuestLevels y = new GuestLevels();
        y.act(2, 7, 0, 0);
        y.open(2, true);
        y.send(2, 15);
        y.enter();
        Due.is("48 IN SERVICE", y.service(2), 32768);
        y.run(1);
        Due.is("48 ENDED", y.service(2), 0);
        y.run(1);
        Due.is("48 none is: nothing", y.service(2), 0);
    }

    /** "11 SWITCHED to a (IN HAND already: nothing)" */
    private static void actSwitches() {
        GuestLevels x = new GuestLevels();
        x.entry(1, 0, 0, 7);
        x.entry(2, 0, 0, 7);
        x.foldAhead();
        x.act(1, 11, 0, 0);
        x.act(1, 11, 2, 0);
        x.act(1, 11, 0, 0);
        x.run(1);
        Due.is("27 IN HAND already", x.is(17), 0);
        Due.is("27 nothing: FOLDED yet", x.is(3), 1);
        x.run(1);
        Due.is("27 IN HAND", x.is(17), 2);
        Due.is("27 nothing is FOLDED", x.is(3), 0);
        x.run(1);
        Due.is("27 IN HAND again", x.is(17), 0);
    }

    /** "Of the inner one, too: 6 TABLE 0 told: VIRTUAL PAGE a to INNER PAGE b, all RIGHTS" */
    private static void actTellsTable0() {
        GuestLevels x = Made.entered();
        x.entry(0, 15, 15, 1);
        x.act(2, 6, 15, 0);
        x.act(2, 6, 0, 15);
        x.run(2);
        Due.is("28 VIRTUAL PAGE 15", x.told(0, 15, 0), 0);
        Due.is("28 all RIGHTS", x.told(0, 15, 1), 7);
        Due.is("28 VIRTUAL PAGE 0", x.told(0, 0, 0), 15);
    }

    /** "8 TABLE 0 told: the VIRTUAL PAGE that is TRAPPED (none: nothing) to INNER PAGE a, all RIGHTS" */
    private static void actTellsTrappedPage() {
        GuestLevels x = Made.entered();
        x.act(2, 8, 15, 0);
        x.run(1);
        for (int p = 0; p < 16; p++) Due.is("28 none: nothing", x.told(0, p, 0), -1);
        for (int page : new int[] {0, 15}) {
            x.touch(page, 1, 0);
            x.run(1);
            Due.is("28 VIRTUAL PAGE " + page, x.told(0, page, 0), 15);
            Due.is("28 all RIGHTS", x.told(0, page, 1), 7);
        }
        Due.is("35 TRAPPED yet", x.trapped(0), 15);
    }

    /** "9 its PLACE is the one that is TRAPPED (none, or PROGRAM (2) has it not: nothing)" */
    private static void actGoesToTrapped() {
        GuestLevels x = Made.entered();
        x.act(2, 9, 0, 0);
        x.act(2, 4, 0, 0);
        x.act(2, 0, 3, 0);
        x.run(1);
        Due.is("27 none: nothing", x.is(12), 1);
        x.run(2);
        Due.is("35 PLACE 2", x.trapped(1), 2);
        Due.is("27 behind the last the first", x.is(12), 0);
        x.run(1);
        Due.is("27 the one that is TRAPPED", x.is(12), 2);
        x.wipe(2);
        for (int i = 0; i < 2; i++) x.act(2, 9, 0, 0);
        x.run(1);
        Due.is("27 PROGRAM (2) has PLACES 0 and 1 alone", x.is(12), 1);
        x.act(2, 9, 0, 0);
        x.run(1);
        Due.is("27 it has PLACE 2", x.is(12), 2);
        Due.is("35 TRAPPED yet", x.trapped(1), 2);
    }

    /** "GONE, n: n times" */
    private static void goneTimes() {
        Edges.taken("25 n", 1, 200, n -> Made.fresh().run(n) == 0);
        for (int n : new int[] {1, 2, 200}) {
            GuestLevels x = new GuestLevels();
            x.want(0, 1);
            x.act(1, 3, 0, 0);
            Due.is("25 an EXIT each", x.run(n), n);
            Due.is("27 TIME", x.is(1), n);
            Due.is("51 an ACT each", x.seenOf(0, 0), n);
        }
    }

    /** "the LEVEL at hand does the ACT at its PLACE (without ACTS nothing)" */
    private static void goneWithoutActs() {
        for (int level = 1; level <= 2; level++) {
            GuestLevels x = new GuestLevels();
            x.act(3 - level, 3, 1, 0);
            if (level == 2) x.enter();
            Due.is("25 no EXIT", x.run(200), 0);
            Due.is("27 TIME", x.is(1), 200);
            Due.is("27 PLACES", x.is(11) + x.is(12), 0);
            Due.is("51 not the other one's ACT", x.seenOf(1, 2), 0);
            Due.is("27 LEVEL", x.is(0), level);
        }
    }

    /** "TIME goes on; DEALT OUT; the LEVEL at hand does the ACT" */
    private static void goneDealsOutFirst() {
        GuestLevels x = Made.entered();
        x.act(1, 3, 1, 0);
        x.act(2, 3, 2, 0);
        x.open(1, true);
        x.timer(1, 1, 5);
        x.run(1);
        Due.is("51 the outer guest's ACT", x.seenOf(1, 2), 1);
        Due.is("51 not the inner one's", x.seenOf(2, 2), 0);
        GuestLevels y = Made.entered();
        y.act(1, 3, 1, 0);
        y.act(2, 3, 2, 0);
        y.slice(1);
        y.run(1);
        Due.is("51 SLICE is over: the outer guest's ACT", y.seenOf(1, 2), 1);
    }

    private static void goneByTheLevelAtHand() {
        GuestLevels x = new GuestLevels();
        x.act(1, 6, 0, 0);
        x.act(1, 3, 1, 0);
        x.act(2, 3, 2, 0);
        x.want(1, 4);
        x.run(1);
        Due.is("51 ENTERED, that is the ACT", x.seenOf(2, 1), 0);
        x.run(1);
        Due.is("51 the inner one's ACT, dealt", x.seenOf(2, 1), 1);
        Due.is("51 that is the ACT", x.seenOf(1, 2), 0);
        x.run(1);
        Due.is("51 the outer guest's next ACT", x.seenOf(1, 2), 1);
    }

    /** "was an ACT of the inner guest dealt to the outer one by REASON 1, its PLACE is that of this ACT again" */
    private static void goneDealtByReason1() {
        for (int place : new int[] {0, 1, 23}) {
            GuestLevels x = Made.entered();
            x.entry(0, 0, 3, 7);
            for (int i = 0; i < 24; i++) x.act(2, i == place ? 0 : 5, 0, 0);
            x.run(place + 1);
            Due.is("27 dealt by REASON 1", x.is(15), 1);
            Due.is("27 PLACE " + place + " again", x.is(12), place);
            x.enter();
            x.run(1);
            Due.is("27 and again", x.is(12), place);
            Due.is("46 twice", x.exits(1), 2);
            x.entry(1, 3, 3, 7);
            x.enter();
            x.run(1);
            Due.is("27 done then: the next one", x.is(12), (place + 1) % 24);
        }
    }

    /** Dealt by another REASON, or seen by the host: PLACE is the next one. */
    private static void goneDealtOtherwise() {
        GuestLevels x = new GuestLevels();
        x.act(2, 3, 6, 0);
        x.act(2, 0, 0, 0);
        x.act(2, 5, 0, 0);
        x.want(1, 64);
        x.want(0, 1);
        x.enter();
        x.run(1);
        Due.is("27 REASON 4", x.is(15), 4);
        Due.is("27 the next one", x.is(12), 1);
        x.enter();
        x.run(1);
        Due.is("27 a TRAP that the host sees: the next one", x.is(12), 2);
        GuestLevels y = Made.led(7, 7, 1);
        y.act(2, 1, 3, 5);
        y.act(2, 5, 0, 0);
        y.run(1);
        Due.is("45 not that RIGHT of TABLE 2", y.exit(0, 1), 2);
        Due.is("27 the next one, too", y.is(12), 1);
    }

    /** "did it TRAP, and that is nobody's but its own, the PLACE of this ACT is TRAPPED" */
    private static void goneTraps() {
        for (int act = 0; act < 3; act++) {
            GuestLevels x = Made.entered();
            x.act(2, 5, 0, 0);
            x.act(2, act, 15, 0);
            x.run(1);
            Due.is("35 none yet", x.trapped(1), -1);
            x.run(1);
            Due.is("35 the PLACE", x.trapped(1), 1);
            Due.is("35 the VIRTUAL PAGE", x.trapped(0), 15);
            Due.is("27 no TRAP PLACE: the next one", x.is(12), 0);
            x.touch(4, 0, 0);
            Due.is("35 by hand: the VIRTUAL PAGE", x.trapped(0), 4);
            Due.is("35 by hand: the PLACE stays", x.trapped(1), 1);
        }
    }

    private static void goneTrapsOfOthers() {
        for (int by = 0; by < 2; by++) {
            GuestLevels x = new GuestLevels();
            x.want(by, 1);
            x.trapPlace(0);
            x.act(2, 5, 0, 0);
            x.act(2, 0, 9, 0);
            x.act(2, 5, 0, 0);
            x.enter();
            x.run(2);
            Due.is("35 wanted by " + by + ": no PLACE", x.trapped(1), -1);
            Due.is("35 wanted by " + by + ": no VIRTUAL PAGE", x.trapped(0), -1);
            Due.is("27 wanted by " + by + ": the next one", x.is(12), 2);
        }
    }

    /** "and if there is a TRAP PLACE, and PROGRAM (2) has it, that is its PLACE" */
    private static void goneTrapPlace() {
        for (int acts : new int[] {1, 2, 3, 24}) {
            for (int place : new int[] {-1, 0, 1, 2, 3, 23}) {
                GuestLevels x = Made.entered();
                x.act(2, 0, 9, 0);
                for (int i = 1; i < acts; i++) x.act(2, 5, 0, 0);
                x.trapPlace(place);
                x.run(1);
                int next = acts == 1 ? 0 : 1;
                boolean has = place >= 0 && place < acts;
                Due.is("27 TRAP PLACE " + place + " of " + acts + " ACTS", x.is(12), has ? place : next);
                Due.is("35 the PLACE that is TRAPPED", x.trapped(1), 0);
            }
        }
    }

    /** "the latest 20, the latest first (all is as ahead of it)" */
    private static void stepsAtMost() {
        GuestLevels x = new GuestLevels();
        Due.is("70 none at first", x.steps(), 0);
        Due.is("26 none at first", x.undo(), -1);
        for (int i = 1; i <= 20; i++) {
            x.room(1 + i % 16);
            Due.is("70 as many", x.steps(), i);
        }
        GuestLevels y = new GuestLevels();
        for (int i = 0; i < 20; i++) y.pass(1);
        for (int i = 19; i >= 0; i--) {
            Due.is("26 the latest first", y.undo(), i);
            Due.is("27 as ahead of it", y.is(1), i);
        }
        Due.is("26 none any more", y.undo(), -1);
        for (int i = 0; i < 21; i++) y.pass(1);
        Due.is("70 not twenty-one", y.steps(), 20);
        for (int i = 19; i >= 0; i--) Due.is("26 twenty of them", y.undo(), i);
        Due.is("27 the first one stays", y.is(1), 1);
        Due.is("26 it can't be taken back", y.undo(), -1);
        Due.is("27 TIME stays", y.is(1), 1);
    }

    /** "STEPS that are taken back: ENTRIES told, FOLDED AHEAD, JOINED, TRAP PLACE, .. GONE" */
    private static void stepsOfEachSort() {
        String[] told = {"entry 1 0 0 7", "entry 2 0 0 7", "foldAhead", "join", "trapPlace 0", "trapPlace -1",
            "room 6", "want 0 0", "want 1 255", "touch 0 0 0", "touch 5 1 9", "event 0", "enter", "send 1 3",
            "send 2 3", "open 1 0", "open 2 1", "hand 2", "scale 1 16 0", "scale 2 1 1", "timer 0 5 5",
            "handler 4 -1", "handler 8 23", "slice 0", "forget", "pass 1", "act 1 4 0 0", "act 2 9 0 0",
            "wipe 1", "wipe 2", "run 200"};
        for (String call : told) {
            GuestLevels x = new GuestLevels();
            Calls.tell(x, call);
            Due.is("70 a STEP: " + call, x.steps(), 1);
            Due.is("26 taken back: " + call, x.undo(), 0);
        }
        GuestLevels y = new GuestLevels();
        y.timer(0, 5, 5);
        y.cancel(0);
        Due.is("70 TIMERS gone", y.steps(), 2);
        y.entry(1, 3, 3, 7);
        y.clear(1, 3);
        Due.is("70 ENTRIES gone", y.steps(), 4);
        y.open(1, true);
        y.send(1, 9);
        y.finish();
        Due.is("70 ENDED", y.steps(), 7);
    }

    /** What is refused is no STEP, and what is asked is none. */
    private static void stepsNot() {
        String[] refused = {"entry 0 0 0 7", "entry 1 16 0 7", "entry 2 0 10 7", "entry 2 0 0 8", "clear 2 0",
            "clear 0 0", "room 0", "room 17", "trapPlace 24", "trapPlace -2", "want 2 0", "want 0 256",
            "touch 16 0 0", "touch 0 3 0", "touch 0 1 10000", "event 8", "event -1", "send 0 0", "send 1 16",
            "open 0 1", "open 3 1", "finish", "hand 0", "hand 3", "scale 1 0 0", "scale 2 1 10000", "timer 3 0 0",
            "timer 0 1000000 0", "cancel 0", "cancel -1", "handler 2 0", "handler 1 24", "slice 100", "slice -1",
            "pass 0", "pass 201", "act 1 12 0 0", "act 2 0 16 0", "wipe 0", "wipe 3", "run 0", "run 201"};
        for (String call : refused) {
            GuestLevels x = new GuestLevels();
            Calls.tell(x, call);
            Due.is("70 no STEP: " + call, x.steps(), 0);
        }
        GuestLevels y = new GuestLevels();
        y.image();
        y.back();
        y.till();
        y.roomiest(1);
        y.foretold(1, 1);
        y.plainTraps(1);
        y.first();
        Due.is("70 none of these is one", y.steps(), 0);
    }

    /** "ROOM (are there more ENTRIES than that, those that came longest ago go)" */
    private static void stepRoom() {
        GuestLevels x = Made.straight(16);
        x.room(16);
        for (int p = 15; p >= 0; p--) x.touch(p, 0, 0);
        x.room(16);
        Due.is("27 as many: none goes", x.is(3), 16);
        x.room(15);
        Due.is("27 one more than that: one goes", x.is(3), 15);
        Due.is("29 the one that came longest ago", x.folded(0), 14);
        x.room(1);
        Due.is("27 all but one", x.is(3), 1);
        Due.is("29 the latest stays", x.folded(0), 0);
        x.undo();
        Due.is("27 taken back", x.is(3), 15);
        Due.is("29 as ahead", x.folded(0), 14);
        Due.is("27 ROOM", x.is(2), 15);
    }

    /** "ENTERED (in LEVEL 1 alone)" */
    private static void stepEntered() {
        GuestLevels x = new GuestLevels();
        Due.yes("11 in LEVEL 1", x.enter());
        Due.no("11 in LEVEL 2", x.enter());
        Due.is("70 one STEP", x.steps(), 1);
        x.undo();
        Due.yes("11 in LEVEL 1 again", x.enter());
    }

    /** "VECTORS (of the outer guest: by the host, always; of the inner one in LEVEL 1 alone)" */
    private static void stepVectors() {
        GuestLevels x = new GuestLevels();
        Due.yes("12 outer, LEVEL 1", x.send(1, 0));
        Due.no("12 outer, it is so", x.send(1, 0));
        Due.yes("12 inner, LEVEL 1", x.send(2, 0));
        Due.no("12 inner, it is so", x.send(2, 0));
        x.enter();
        Due.yes("12 outer, LEVEL 2", x.send(1, 15));
        Due.no("12 inner, LEVEL 2", x.send(2, 15));
        Due.is("47 inner", x.pending(2), 1);
        Due.is("70 STEPS", x.steps(), 4);
    }

    /** "ENDED (of the inner one in LEVEL 2, of the outer one in LEVEL 1 alone)" */
    private static void stepEnded() {
        GuestLevels x = new GuestLevels();
        x.open(1, true);
        x.send(1, 3);
        x.enter();
        int steps = x.steps();
        Due.is("14 the outer one's not in LEVEL 2", x.finish(), -1);
        Due.is("70 no STEP", x.steps(), steps);
        Due.is("48 it stays", x.service(1), 8);
        x.send(1, 4);
        Due.is("14 in LEVEL 1", x.finish(), 4);
        GuestLevels y = new GuestLevels();
        y.open(2, true);
        y.send(2, 3);
        y.enter();
        Made.leave(y);
        Due.is("14 the inner one's not in LEVEL 1", y.finish(), -1);
        Due.is("48 it stays", y.service(2), 8);
    }

    /** "PROGRAMS wiped (PLACE 0 then)" */
    private static void stepWiped() {
        for (int guest = 1; guest <= 2; guest++) {
            GuestLevels x = new GuestLevels();
            Due.is("24 none", x.wipe(guest), 0);
            for (int i = 0; i < 24; i++) {
                x.act(1, 5, 0, 0);
                x.act(2, 5, 0, 0);
            }
            x.run(23);
            x.enter();
            x.run(23);
            Due.is("24 all", x.wipe(guest), 24);
            Due.is("27 PLACE 0", x.is(10 + guest), 0);
            Due.is("27 the other PLACE stays", x.is(13 - guest), 23);
            Due.is("59 none", x.program(guest, -1, 0), 0);
            Due.is("59 the other PROGRAM stays", x.program(3 - guest, -1, 0), 24);
            x.undo();
            Due.is("59 taken back", x.program(guest, -1, 0), 24);
            Due.is("27 PLACE, too", x.is(10 + guest), 23);
        }
    }

    /** A STEP of many parts is taken back as one. */
    private static void stepsAreTakenBack() {
        GuestLevels x = new GuestLevels();
        x.act(1, 1, 3, 7);
        x.act(1, 6, 0, 0);
        x.act(2, 0, 0, 0);
        x.timer(0, 1, 1);
        x.image();
        Due.is("25 EXITS", x.run(200), 2);
        Due.is("26 the whole of it", x.undo(), 4);
        Due.is("27 TIME", x.is(1), 0);
        Due.is("27 LEVEL", x.is(0), 1);
        Due.is("45 EXITS", x.exit(-1, 0), 0);
        Due.is("30 VALUE", x.frame(0), 0);
        Due.is("28 TABLE 2", x.told(2, 3, 0), -1);
        Due.is("57 TIMERS", x.timed(-1, 0), 1);
        Due.is("27 PLACES", x.is(11) + x.is(12), 0);
        Due.is("27 TRAPS", x.is(7), 0);
        Due.is("26 the latest first: the TIMER", x.undo(), 3);
        Due.is("57 TIMERS", x.timed(-1, 0), 0);
        Due.is("26 then an ACT", x.undo(), 2);
        Due.is("59 ACTS of (2)", x.program(2, -1, 0), 0);
        Due.is("59 ACTS of (1)", x.program(1, -1, 0), 2);
    }

    /** The eldest of 24 that went for a twenty-fifth is there again. */
    private static void stepsTakeBackTheLatestOf24() {
        GuestLevels x = Made.straight(10);
        for (int i = 0; i < 24; i++) x.touch(i % 10, 0, 0);
        x.touch(9, 0, 0);
        Due.is("36 the eldest", x.heard(0), 11);
        x.undo();
        Due.is("36 the eldest again", x.heard(0), 0);
        Due.is("36 the latest again", x.heard(23), 33);
        GuestLevels y = new GuestLevels();
        Made.exits(y, 24);
        y.event(6);
        Due.is("45 the eldest", y.exit(0, 2), 1);
        y.undo();
        Due.is("45 the eldest again", y.exit(0, 2), 0);
        Due.is("45 the latest again", y.exit(23, 2), 7);
        Due.is("45 twenty-four", y.exit(-1, 0), 24);
        Due.is("27 COUNTED", y.is(5), 24);
    }

    private static void stepsTakeBackSince() {
        for (int guest = 1; guest <= 2; guest++) {
            GuestLevels x = new GuestLevels();
            x.send(guest, 4);
            x.pass(5);
            x.image();
            x.open(guest, true);
            if (guest == 2) x.enter();
            x.finish();
            x.open(guest, false);
            if (guest == 2) Made.leave(x);
            int steps = x.steps();
            x.send(guest, 4);
            Due.is("55 anew", x.pendingFor(guest, 4), 0);
            for (int i = steps; i >= 2; i--) x.undo();
            Due.is("55 taken back: since it came to be so", x.pendingFor(guest, 4), 5);
            x.open(guest, true);
            x.back();
            Due.is("55 so again", x.pendingFor(guest, 4), 5);
            x.open(guest, true);
            if (guest == 2) x.enter();
            Due.is("54 LONGEST", x.longest(guest), 5);
        }
    }

    private static void stepsTakeBackTrapped() {
        GuestLevels x = Made.entered();
        for (int page = 10; page < 13; page++) x.act(2, 0, page, 0);
        x.run(2);
        x.image();
        Due.is("35 the PLACE", x.trapped(1), 1);
        x.run(1);
        Due.is("35 the next PLACE", x.trapped(1), 2);
        x.undo();
        Due.is("35 taken back: the PLACE", x.trapped(1), 1);
        Due.is("35 taken back: the VIRTUAL PAGE", x.trapped(0), 11);
        x.run(2);
        x.back();
        Due.is("35 so again: the PLACE", x.trapped(1), 1);
        Due.is("35 so again: the VIRTUAL PAGE", x.trapped(0), 11);
    }

    private static void stepsTakeBackReason1() {
        GuestLevels x = Made.entered();
        x.entry(0, 0, 3, 7);
        x.entry(0, 1, 4, 7);
        x.touch(0, 0, 0);
        x.enter();
        x.touch(1, 0, 0);
        x.undo();
        x.undo();
        x.act(1, 9, 8, 0);
        x.act(1, 6, 0, 0);
        x.act(2, 0, 0, 0);
        x.act(2, 0, 1, 0);
        Due.is("60 INNER PAGE 3 is told: the host sees the EXIT", x.foretold(3, 5), 1);
        Due.is("60 only the first was dealt", x.foretold(3, 6), 1);
        x.run(1);
        Due.is("28 INNER PAGE 3", x.told(1, 3, 0), 8);
        Due.is("28 not INNER PAGE 4", x.told(1, 4, 0), -1);
    }
}
