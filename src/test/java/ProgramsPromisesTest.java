/** Promises 23 to 25, 59 to 66: PROGRAMS, what is FORETOLD, what goes PLAINLY. */
public final class ProgramsPromisesTest {
    private ProgramsPromisesTest() {
    }

    public static void main(String[] args) {
        actOfBoth();
        actOfEach();
        actsAtMost();
        wipe();
        runOthers();
        outerActs();
        innerActs();
        dealtActIsDoneAgain();
        trapsLead();
        trapsThatOthersSee();
        returnsToTrapped();
        runDealsOut();
        program();
        foretold();
        foretoldByAge();
        till();
        waits();
        roomiest();
        roomiestTellsRoomNow();
        plainly();
        plainTraps();
        plainHeard();
        Due.end();
    }

    /** What act() answers on a new object: 1 if it can be told, -1 if not. */
    private static int acted(int guest, int act, int a, int b) {
        return new GuestLevels().act(guest, act, a, b);
    }

    private static void actOfBoth() {
        for (int guest = 1; guest <= 2; guest++) {
            for (int act = 0; act <= 2; act++) {
                Due.is("23 a 15", acted(guest, act, 15, 0), 1);
                Due.is("23 a 16", acted(guest, act, 16, 0), -1);
                Due.is("23 a -1", acted(guest, act, -1, 0), -1);
                Due.is("23 b 1", acted(guest, act, 0, 1), act == 1 ? 1 : -1);
                Due.is("23 b 9999", acted(guest, act, 0, 9999), act == 1 ? 1 : -1);
                Due.is("23 b 10000", acted(guest, act, 0, 10000), -1);
                Due.is("23 b -1", acted(guest, act, 0, -1), -1);
            }
            Due.is("23 EVENT 7", acted(guest, 3, 7, 0), 1);
            Due.is("23 EVENT 8", acted(guest, 3, 8, 0), -1);
            Due.is("23 EVENT, b", acted(guest, 3, 7, 1), -1);
            for (int act = 4; act <= 5; act++) {
                Due.is("23 OPEN", acted(guest, act, 0, 0), 1);
                Due.is("23 OPEN, a", acted(guest, act, 1, 0), -1);
                Due.is("23 OPEN, b", acted(guest, act, 0, 1), -1);
            }
            Due.is("23 ACT -1", acted(guest, -1, 0, 0), -1);
        }
        Due.is("23 guest 0", acted(0, 0, 0, 0), -1);
        Due.is("23 guest 3", acted(3, 0, 0, 0), -1);
    }

    private static void actOfEach() {
        // {guest, act, most a, most b}
        int[][] most = {{1, 6, 0, 0}, {1, 7, 15, 15}, {1, 8, 15, 0}, {1, 9, 15, 0}, {1, 10, 0, 0},
            {1, 11, 2, 0}, {2, 6, 15, 15}, {2, 7, 0, 0}, {2, 8, 15, 0}, {2, 9, 0, 0}};
        for (int[] m : most) {
            String name = "23 ACT " + m[1] + " of " + m[0];
            Due.is(name, acted(m[0], m[1], m[2], m[3]), 1);
            Due.is(name + ", a above", acted(m[0], m[1], m[2] + 1, 0), -1);
            Due.is(name + ", b above", acted(m[0], m[1], 0, m[3] + 1), -1);
            Due.is(name + ", a below", acted(m[0], m[1], -1, 0), -1);
            Due.is(name + ", b below", acted(m[0], m[1], 0, -1), -1);
        }
        Due.is("23 ACT 12 of 1", acted(1, 12, 0, 0), -1);
        Due.is("23 ACT 10 of 2", acted(2, 10, 0, 0), -1);
        Due.is("23 ACT 11 of 2", acted(2, 11, 0, 0), -1);
    }

    private static void actsAtMost() {
        GuestLevels x = new GuestLevels();
        for (int i = 1; i <= 24; i++) Due.is("23 how many", x.act(1, 3, 1, 0), i);
        Due.is("23 the 25th", x.act(1, 3, 1, 0), -1);
        Due.is("23 of the other PROGRAM", x.act(2, 3, 1, 0), 1);
    }

    private static void wipe() {
        GuestLevels x = new GuestLevels();
        for (int i = 0; i < 3; i++) x.act(1, 4, 0, 0);
        x.act(2, 4, 0, 0);
        x.run(2);
        Due.is("27 PLACE", x.is(11), 2);
        Due.is("24 guest 0", x.wipe(0), -1);
        Due.is("24 guest 3", x.wipe(3), -1);
        Due.is("24 how many", x.wipe(1), 3);
        Due.is("24 PLACE", x.is(11), 0);
        Due.is("24 none", x.program(1, -1, 0), 0);
        Due.is("24 the other one", x.program(2, -1, 0), 1);
        int steps = x.steps();
        Due.is("24 again", x.wipe(1), 0);
        Due.is("24 is a STEP", x.steps(), steps + 1);
    }

    private static void runOthers() {
        GuestLevels x = new GuestLevels();
        Due.is("25 n 0", x.run(0), -1);
        Due.is("25 n 201", x.run(201), -1);
        Due.is("25 n -5", x.run(-5), -1);
        Due.is("25 no STEP", x.steps(), 0);
        Due.is("25 without ACTS", x.run(200), 0);
        Due.is("27 TIME", x.is(1), 200);
        x.want(0, 4);
        x.act(1, 3, 2, 0);
        x.timer(0, 205, 0);
        Due.is("25 EXITS", x.run(10), 11);
    }

    private static void outerActs() {
        GuestLevels x = new GuestLevels();
        x.act(1, 1, 3, 500);
        x.act(1, 0, 3, 0);
        x.act(1, 2, 4, 0);
        x.act(1, 4, 0, 0);
        x.act(1, 5, 0, 0);
        x.act(1, 7, 6, 5);
        x.act(1, 8, 9, 0);
        x.act(1, 11, 2, 0);
        x.act(1, 11, 2, 0);
        x.act(1, 9, 2, 0);
        x.send(1, 3);
        x.run(1);
        Due.is("25 WRITE", x.frame(0), 500);
        x.run(2);
        Due.is("25 RUN", x.told(2, 4, 0), 1);
        Due.is("36 none HEARD", x.heard(-1), 0);
        x.run(1);
        Due.is("25 OPEN: TAKEN behind the ACT", x.service(1), 8);
        x.run(1);
        Due.no("25 not OPEN", x.isOpen(1));
        x.run(1);
        Due.is("25 TABLE 1", x.told(1, 6, 0), 5);
        Due.is("25 all RIGHTS", x.told(1, 6, 1), 7);
        x.run(1);
        Due.is("25 PENDING", x.pending(2), 512);
        x.run(1);
        Due.is("25 SWITCHED", x.is(17), 2);
        x.entry(1, 0, 0, 7);
        x.entry(2, 0, 0, 7);
        x.foldAhead();
        x.run(1);
        Due.is("25 IN HAND already: nothing", x.is(3), 1);
        x.run(1);
        Due.is("25 no EXIT by REASON 1 yet: nothing", x.is(3), 1);
        Due.is("27 PLACE round", x.is(11), 0);
        x.wipe(1);
        x.act(1, 10, 0, 0);
        x.run(1);
        Due.is("25 ENDED", x.service(1), 0);
        x.run(1);
        Due.is("25 none is: nothing", x.service(1), 0);
    }

    private static void innerActs() {
        GuestLevels x = new GuestLevels();
        x.act(2, 6, 1, 2);
        x.act(2, 1, 1, 321);
        x.act(2, 0, 1, 0);
        x.act(2, 2, 1, 0);
        x.act(2, 3, 6, 0);
        x.act(2, 4, 0, 0);
        x.act(2, 7, 0, 0);
        x.act(2, 5, 0, 0);
        x.entry(1, 2, 3, 7);
        x.send(2, 4);
        x.want(0, 64);
        x.enter();
        x.run(1);
        Due.is("25 TABLE 0", x.told(0, 1, 0), 2);
        Due.is("25 all RIGHTS", x.told(0, 1, 1), 7);
        Due.is("25 WRITE, an EXIT", x.run(1), 1);
        Due.is("25 WRITTEN", x.frame(0), 321);
        x.run(2);
        Due.is("36 HEARD", x.heard(-1), 2);
        Due.is("36 HEARD", x.heard(1), 321);
        Due.is("25 EVENT", x.run(1), 1);
        Due.is("25 seen by the host", x.seenOf(6, 0), 1);
        x.run(1);
        Due.is("25 OPEN: TAKEN", x.service(2), 16);
        x.run(1);
        Due.is("25 ENDED", x.service(2), 0);
        x.run(1);
        Due.no("25 not OPEN", x.isOpen(2));
        Due.is("27 PLACE round", x.is(12), 0);
    }

    private static void dealtActIsDoneAgain() {
        GuestLevels x = new GuestLevels();
        x.act(2, 6, 0, 9);
        x.act(2, 0, 0, 0);
        x.act(2, 3, 5, 0);
        x.act(1, 6, 0, 0);
        x.act(1, 9, 4, 0);
        x.want(1, 32);
        x.run(3);
        Due.is("25 dealt by REASON 1", x.is(15), 1);
        Due.is("25 PLACE of this ACT again", x.is(12), 1);
        x.run(1);
        Due.is("25 ACT 9", x.told(1, 9, 0), 4);
        x.run(2);
        Due.is("25 it is done then", x.heard(-1), 1);
        Due.is("27 PLACE", x.is(12), 2);
        x.run(1);
        Due.is("25 dealt by REASON 4", x.is(15), 4);
        Due.is("25 PLACE is the next one", x.is(12), 0);
    }

    private static void trapsLead() {
        GuestLevels x = new GuestLevels();
        for (int i = 0; i < 3; i++) x.act(2, 4, 0, 0);
        x.act(2, 0, 7, 0);
        x.act(2, 5, 0, 0);
        x.trapPlace(1);
        x.enter();
        x.run(4);
        Due.is("35 VIRTUAL PAGE", x.trapped(0), 7);
        Due.is("35 PLACE", x.trapped(1), 3);
        Due.is("25 TRAP PLACE", x.is(12), 1);
        x.trapPlace(5);
        x.run(3);
        Due.is("25 PROGRAM (2) hasn't that PLACE", x.is(12), 4);
        Due.is("27 how often", x.is(7), 2);
        x.trapPlace(-1);
        x.run(5);
        Due.is("25 no TRAP PLACE", x.is(12), 4);
    }

    private static void trapsThatOthersSee() {
        GuestLevels x = new GuestLevels();
        x.act(2, 0, 7, 0);
        x.act(2, 4, 0, 0);
        x.act(2, 4, 0, 0);
        x.trapPlace(2);
        x.want(0, 1);
        x.enter();
        x.run(1);
        Due.is("35 no PLACE", x.trapped(1), -1);
        Due.is("25 PLACE is the next one", x.is(12), 1);
        Due.is("27 seen by the host", x.is(5), 1);
    }

    private static void returnsToTrapped() {
        GuestLevels x = new GuestLevels();
        x.act(2, 8, 3, 0);
        x.act(2, 9, 0, 0);
        x.act(2, 0, 6, 0);
        x.act(2, 3, 1, 0);
        x.trapPlace(0);
        x.entry(1, 3, 3, 7);
        x.enter();
        x.run(2);
        Due.is("25 none is TRAPPED: nothing", x.is(12), 2);
        x.run(1);
        Due.is("25 TRAPPED", x.is(12), 0);
        x.run(2);
        Due.is("25 TABLE 0", x.told(0, 6, 0), 3);
        Due.is("25 all RIGHTS", x.told(0, 6, 1), 7);
        Due.is("25 its PLACE is the one that is TRAPPED", x.is(12), 2);
        x.run(1);
        Due.is("25 done then", x.heard(-1), 1);
        x.run(2);
        Due.is("27 PLACE", x.is(12), 1);
        x.act(2, 9, 0, 0);
        x.act(2, 3, 1, 0);
        x.wipe(1);
        x.trapPlace(4);
        x.clear(0, 6);
        x.run(2);
        Due.is("25 TRAPPED again", x.is(12), 4);
        x.run(1);
        Due.is("25 back to that PLACE", x.is(12), 2);
        x.wipe(2);
        x.act(2, 9, 0, 0);
        x.act(2, 4, 0, 0);
        x.run(1);
        Due.is("25 PROGRAM (2) has it not: nothing", x.is(12), 1);
    }

    private static void runDealsOut() {
        GuestLevels x = new GuestLevels();
        x.act(2, 3, 1, 0);
        x.act(1, 5, 0, 0);
        x.open(1, true);
        x.timer(1, 1, 2);
        x.enter();
        Due.is("25 an EXIT by REASON 6", x.run(1), 1);
        Due.is("25 DEALT OUT ahead of the ACT", x.seenOf(1, 2), 0);
        Due.no("25 the outer guest's ACT is done", x.isOpen(1));
    }

    private static void program() {
        GuestLevels x = new GuestLevels();
        x.act(1, 7, 4, 5);
        x.act(2, 1, 6, 700);
        Due.is("59 the ACT", x.program(1, 0, 0), 7);
        Due.is("59 a", x.program(1, 0, 1), 4);
        Due.is("59 b", x.program(1, 0, 2), 5);
        Due.is("59 b of the inner one", x.program(2, 0, 2), 700);
        Due.is("59 how many", x.program(2, -1, 0), 1);
        Due.is("59 i 1", x.program(1, 1, 0), -2);
        Due.is("59 i -2", x.program(1, -2, 0), -2);
        Due.is("59 what 3", x.program(1, 0, 3), -2);
        Due.is("59 what -1", x.program(1, 0, -1), -2);
        Due.is("59 guest 0", x.program(0, -1, 0), -2);
        Due.is("59 guest 3", x.program(3, -1, 0), -2);
    }

    private static void foretold() {
        GuestLevels x = new GuestLevels();
        x.act(1, 1, 1, 5);
        x.act(1, 6, 0, 0);
        x.act(2, 0, 3, 0);
        x.act(2, 4, 0, 0);
        int steps = x.steps();
        Due.is("60 TIME", x.foretold(200, 1), 200);
        Due.is("60 LEVEL", x.foretold(2, 0), 2);
        Due.is("60 EXITS", x.foretold(1, 5), 1);
        Due.is("60 TRAPS", x.foretold(5, 7), 2);
        Due.is("60 FREE", x.foretold(1, 4), 9);
        Due.is("60 nothing is changed", x.is(1) + x.is(5) + x.is(7), 0);
        Due.is("60 no STEP", x.steps(), steps);
        Due.is("60 IN HAND", x.foretold(1, 17), 0);
        Due.is("60 what 18", x.foretold(1, 18), -1);
        Due.is("60 what -1", x.foretold(1, -1), -1);
        Due.is("60 n 0", x.foretold(0, 1), -1);
        Due.is("60 n 201", x.foretold(201, 1), -1);
        x.run(5);
        Due.is("25 as FORETOLD", x.is(7), 2);
    }

    /** Which ENTRY came longest ago is so in what is FORETOLD, too. */
    private static void foretoldByAge() {
        GuestLevels x = new GuestLevels();
        x.room(2);
        for (int p = 0; p < 4; p++) x.entry(1, p, p, 7);
        x.enter();
        for (int p = 0; p < 4; p++) x.entry(0, p, p, 7);
        for (int i = 0; i < 10; i++) x.touch(i % 4, 0, 0);
        Due.is("29 FOLDED", x.folded(0), 0);
        for (int p : new int[] {2, 1, 3, 2}) x.act(2, 0, p, 0);
        Due.is("60 EXITS by PAGES 2 and 3", x.foretold(4, 5) - x.is(5), 2);
        x.run(4);
        Due.is("29 FOLDED then", x.folded(0), 2);
    }

    private static void till() {
        GuestLevels x = new GuestLevels();
        Due.is("61 none", x.till(), -1);
        x.act(1, 6, 0, 0);
        x.slice(50);
        Due.is("61 by SLICE", x.till(), 51);
        x.want(1, 2);
        x.act(2, 4, 0, 0);
        x.act(2, 3, 1, 0);
        Due.is("61 by EVENT", x.till(), 3);
        x.run(3);
        Due.is("61 the next one", x.till(), 3);
        x.wipe(2);
        x.want(1, 0);
        x.wipe(1);
        Due.is("61 none any more", x.till(), -1);
        x.timer(1, x.is(1) + 201, 1);
        x.open(1, true);
        x.slice(0);
        x.enter();
        Due.is("61 beyond 200", x.till(), -1);
        x.pass(1);
        Due.is("61 at 200", x.till(), 200);
    }

    private static void waits() {
        GuestLevels x = new GuestLevels();
        x.timer(1, 4, 3);
        x.timer(2, 6, 5);
        x.act(1, 4, 0, 0);
        x.act(1, 6, 0, 0);
        x.act(2, 4, 0, 0);
        Due.is("62 the outer guest", x.waits(1), 4);
        Due.is("62 the inner one", x.waits(2), 6);
        Due.is("62 guest 0", x.waits(0), -1);
        Due.is("62 guest 3", x.waits(3), -1);
        x.run(6);
        Due.is("53 TAKEN", x.taken(2), 5);
        Due.is("62 none", x.waits(2), -1);
        x.timer(2, x.is(1) + 201, 9);
        Due.is("62 beyond 200", x.waits(2), -1);
        x.pass(1);
        Due.is("62 at 200", x.waits(2), 200);
    }

    private static void roomiest() {
        GuestLevels x = new GuestLevels();
        Due.is("63 n 0", x.roomiest(0), -1);
        Due.is("63 n 101", x.roomiest(101), -1);
        Due.is("63 all alike: the least", x.roomiest(100), 1);
        for (int p = 0; p < 4; p++) {
            x.entry(1, p, p, 7);
            x.act(2, 0, p, 0);
        }
        x.enter();
        for (int p = 0; p < 4; p++) x.entry(0, p, p, 7);
        Due.is("63 each once", x.roomiest(4), 1);
        Due.is("63 one more", x.roomiest(5), 4);
        Due.is("63 round and round", x.roomiest(100), 4);
        Due.is("63 nothing is changed", x.is(2), 6);
        x.entry(0, 3, 0, 7);
        Due.is("63 three PAGES", x.roomiest(100), 3);
        GuestLevels y = new GuestLevels();
        for (int p = 0; p < 16; p++) {
            y.entry(1, p, p, 7);
            y.entry(2, p, p % 10, 7);
            y.act(2, 0, p, 0);
        }
        y.enter();
        for (int p = 0; p < 16; p++) y.entry(0, p, p, 7);
        Due.is("63 sixteen PAGES", y.roomiest(40), 16);
    }

    private static void roomiestTellsRoomNow() {
        GuestLevels x = new GuestLevels();
        for (int p = 0; p < 2; p++) {
            x.entry(1, p, p, 7);
            x.entry(2, p, p, 7);
            x.act(2, 0, p, 0);
        }
        x.enter();
        for (int p = 0; p < 2; p++) x.entry(0, p, p, 7);
        x.run(2);
        Due.is("63 FOLDED", x.is(3), 2);
        Due.is("63 all FOLDED being gone first", x.roomiest(2), 1);
        Due.is("63 three times", x.roomiest(3), 2);
        Due.is("63 FOLDED yet", x.is(3), 2);
    }

    private static void plainly() {
        GuestLevels x = new GuestLevels();
        for (int p = 0; p < 11; p++) x.touch(p, 1, 50 + p);
        x.entry(2, 4, 4, 1);
        x.entry(1, 2, 4, 4);
        x.entry(1, 3, 0, 7);
        x.entry(1, 5, 12, 7);
        Due.is("64 VALUE at the FRAME, whatever RIGHTS", x.plainly(1, 2), 54);
        Due.is("64 STORED", x.plainly(1, 3), 50);
        Due.is("64 neither", x.plainly(1, 5), 0);
        Due.is("64 no ENTRY of TABLE 1", x.plainly(1, 9), 0);
        x.act(2, 6, 1, 9);
        x.act(2, 1, 1, 1234);
        x.act(2, 3, 0, 0);
        Due.is("64 not yet", x.plainly(1, 9), 0);
        Due.is("64 WRITTEN", x.plainly(2, 9), 1234);
        Due.is("64 nothing is changed", x.told(0, 1, 0), -1);
        Due.is("64 n 0", x.plainly(0, 9), -1);
        Due.is("64 n 201", x.plainly(201, 9), -1);
        Due.is("64 n 200", x.plainly(200, 9), 1234);
        Due.is("64 page 16", x.plainly(1, 16), -1);
        Due.is("64 page -1", x.plainly(1, -1), -1);
        x.want(1, 1);
        x.enter();
        x.run(1);
        Due.is("64 from its PLACE on", x.plainly(1, 9), 1234);
    }

    private static void plainTraps() {
        GuestLevels x = new GuestLevels();
        Due.is("65 without ACTS", x.plainTraps(10), 0);
        x.act(2, 0, 3, 0);
        x.act(2, 4, 0, 0);
        Due.is("65 each round", x.plainTraps(10), 5);
        x.act(2, 8, 2, 0);
        x.act(2, 9, 0, 0);
        x.trapPlace(2);
        x.want(1, 255);
        Due.is("65 whoever wants it, told by ACT 8", x.plainTraps(10), 1);
        Due.is("66 done again by ACT 9", x.plainHeard(4), 0);
        Due.is("66 not yet", x.plainHeard(3), -1);
        Due.is("65 not TRAPPED by that", x.trapped(0), -1);
        x.enter();
        x.entry(0, 3, 2, 2);
        Due.is("65 not that RIGHT", x.plainTraps(1), 1);
        x.entry(0, 3, 2, 1);
        Due.is("65 that RIGHT", x.plainTraps(1), 0);
        Due.is("65 n 0", x.plainTraps(0), -1);
        Due.is("65 n 201", x.plainTraps(201), -1);
    }

    private static void plainHeard() {
        GuestLevels x = new GuestLevels();
        x.act(2, 6, 0, 1);
        x.act(2, 1, 0, 42);
        x.act(2, 2, 0, 0);
        x.act(2, 1, 0, 43);
        x.act(2, 0, 0, 0);
        Due.is("66 none", x.plainHeard(2), -1);
        Due.is("66 RUN", x.plainHeard(3), 42);
        Due.is("66 the latest", x.plainHeard(4), 42);
        Due.is("66 READ", x.plainHeard(5), 43);
        Due.is("66 n 0", x.plainHeard(0), -1);
        Due.is("66 n 201", x.plainHeard(201), -1);
        Due.is("66 nothing is HEARD", x.heard(-1), 0);
    }
}
