/** Promises 12 to 15, 47 to 50, 52 to 55: VECTORS, and which inner guest is IN HAND. */
public final class VectorsPromisesTest {
    private VectorsPromisesTest() {
    }

    public static void main(String[] args) {
        send();
        open();
        oneAtATime();
        bothLevels();
        finish();
        hand();
        handPutsBy();
        handUnfolds();
        putBy();
        spent();
        taken();
        longest();
        pendingFor();
        Due.end();
    }

    private static void send() {
        GuestLevels x = new GuestLevels();
        Due.yes("12 of the outer guest", x.send(1, 15));
        Due.no("12 is so", x.send(1, 15));
        Due.yes("12 of the inner one", x.send(2, 0));
        Due.is("47 outer", x.pending(1), 32768);
        Due.is("47 inner", x.pending(2), 1);
        Due.no("12 VECTOR 16", x.send(1, 16));
        Due.no("12 VECTOR -1", x.send(1, -1));
        Due.no("12 guest 0", x.send(0, 1));
        Due.no("12 guest 3", x.send(3, 1));
        x.enter();
        Due.no("12 of the inner one in LEVEL 2", x.send(2, 1));
        Due.yes("12 of the outer one in LEVEL 2", x.send(1, 1));
        Due.is("12 STEPS", x.steps(), 4);
        Due.is("47 guest 0", x.pending(0), -1);
        Due.is("47 guest 3", x.pending(3), -1);
        Due.is("48 guest 0", x.service(0), -1);
        Due.is("48 guest 3", x.service(3), -1);
    }

    private static void open() {
        GuestLevels x = new GuestLevels();
        Due.no("52 at first", x.isOpen(1));
        Due.yes("13 true", x.open(1, true));
        Due.yes("52 then", x.isOpen(1));
        Due.no("52 of the other one", x.isOpen(2));
        Due.yes("13 of the inner one in LEVEL 1", x.open(2, true));
        Due.yes("52 of the inner one", x.isOpen(2));
        Due.yes("13 false", x.open(1, false));
        Due.no("52 then", x.isOpen(1));
        Due.no("13 guest 0", x.open(0, true));
        Due.no("13 guest 3", x.open(3, true));
        Due.no("52 guest 0", x.isOpen(0));
        Due.no("52 guest 3", x.isOpen(3));
        Due.is("13 STEPS", x.steps(), 3);
    }

    private static void oneAtATime() {
        GuestLevels x = new GuestLevels();
        x.send(1, 5);
        x.send(1, 3);
        x.open(1, true);
        Due.is("48 the greatest", x.service(1), 32);
        Due.is("47 the other one waits", x.pending(1), 8);
        x.send(1, 5);
        Due.is("47 not greater than that IN SERVICE", x.pending(1), 40);
        x.send(1, 6);
        Due.is("48 a greater one comes in between", x.service(1), 96);
        Due.is("27 TAKEN", x.is(9), 2);
        Due.is("14 the greatest", x.finish(), 6);
        Due.is("14 the next one", x.finish(), 5);
        Due.is("48 the same VECTOR again", x.service(1), 32);
    }

    private static void bothLevels() {
        GuestLevels x = new GuestLevels();
        x.open(2, true);
        x.send(2, 9);
        Due.is("48 not in LEVEL 1", x.service(2), 0);
        x.enter();
        Due.is("48 in LEVEL 2", x.service(2), 512);
        Due.is("27 no EXIT by that", x.exit(-1, 0), 0);
        x.send(1, 2);
        Due.is("27 not OPEN", x.is(0), 2);
        x.open(1, true);
        Due.is("27 dealt", x.is(0), 1);
        Due.is("27 REASON 6", x.is(15), 6);
        Due.is("27 DETAIL the VECTOR", x.is(16), 2);
        Due.is("27 TAKEN by the outer guest", x.is(9), 1);
        Due.is("27 TAKEN by the inner one", x.is(10), 1);

        GuestLevels y = new GuestLevels();
        y.open(2, true);
        y.send(2, 9);
        y.send(1, 2);
        y.want(1, 0);
        y.open(1, true);
        Due.is("27 in LEVEL 1 no EXIT", y.exit(-1, 0), 0);
        y.send(1, 7);
        y.open(1, false);
        y.send(1, 8);
        y.enter();
        Due.is("48 inner takes, outer isn't OPEN", y.service(2), 512);
    }

    private static void finish() {
        GuestLevels x = new GuestLevels();
        Due.is("14 none", x.finish(), -1);
        Due.is("14 no STEP", x.steps(), 0);
        x.open(1, true);
        x.open(2, true);
        x.send(1, 4);
        x.send(2, 8);
        x.enter();
        Due.is("14 by the inner guest", x.finish(), 8);
        Due.is("14 none of its", x.finish(), -1);
        x.send(1, 5);
        Due.is("14 by the outer guest", x.finish(), 5);
        Due.is("48 the other one is yet", x.service(1), 16);
    }

    private static void hand() {
        GuestLevels x = new GuestLevels();
        Due.no("15 IN HAND already", x.hand(0));
        Due.no("15 guest 3", x.hand(3));
        Due.no("15 guest -1", x.hand(-1));
        Due.yes("15 guest 2", x.hand(2));
        Due.is("27 IN HAND", x.is(17), 2);
        x.enter();
        Due.no("15 in LEVEL 2", x.hand(1));
        Due.is("15 STEPS", x.steps(), 2);
    }

    private static void handPutsBy() {
        GuestLevels x = new GuestLevels();
        x.entry(1, 3, 4, 1);
        x.act(2, 4, 0, 0);
        x.act(2, 5, 0, 0);
        x.trapPlace(1);
        x.scale(2, 32, 7);
        x.send(2, 6);
        x.enter();
        x.entry(0, 1, 2, 7);
        x.touch(9, 0, 0);
        x.open(1, true);
        x.run(1);
        x.send(1, 0);
        x.pass(4);
        x.timer(2, 500, 1);
        Due.is("12 PLACE ahead", x.is(12), 1);
        x.hand(1);
        Due.is("15 TABLE 0", x.told(0, 1, 0), -1);
        Due.is("15 TABLE 1", x.told(1, 3, 0), -1);
        Due.is("15 PROGRAM", x.program(2, -1, 0), 0);
        Due.is("15 PLACE", x.is(12), 0);
        Due.is("15 IN SERVICE", x.service(2), 0);
        Due.no("15 OPEN", x.isOpen(2));
        Due.is("15 TRAP PLACE", x.trapped(2), -1);
        Due.is("15 TRAPPED", x.trapped(0), -1);
        Due.is("15 CLOCK", x.clock(2), 5);
        Due.is("15 TIMERS stay", x.timed(-1, 0), 1);
        Due.is("15 TAKEN stays", x.taken(2), 6);
        Due.is("49 TABLE 0", x.putBy(0, 0), 1);
        x.send(2, 6);
        x.hand(0);
        Due.is("15 TABLE 0 again", x.told(0, 1, 0), 2);
        Due.is("15 TABLE 1 again", x.told(1, 3, 1), 1);
        Due.is("15 PROGRAM again", x.program(2, -1, 0), 2);
        Due.is("15 PLACE again", x.is(12), 1);
        Due.is("15 IN SERVICE again", x.service(2), 64);
        Due.is("15 PENDING again", x.pending(2), 0);
        Due.yes("15 OPEN again", x.isOpen(2));
        Due.is("15 TRAP PLACE again", x.trapped(2), 1);
        Due.is("15 TRAPPED again", x.trapped(0), 9);
        Due.is("15 CLOCK again", x.clock(2), 17);
        Due.is("49 PENDING of 1", x.putBy(1, 3), 64);
    }

    private static void handUnfolds() {
        GuestLevels x = new GuestLevels();
        x.entry(1, 0, 0, 7);
        x.entry(2, 0, 0, 7);
        x.foldAhead();
        x.enter();
        x.entry(0, 0, 5, 7);
        x.touch(0, 0, 0);
        Due.is("15 LEVEL", x.is(0), 1);
        x.act(1, 9, 3, 0);
        x.hand(1);
        Due.is("15 nothing is FOLDED", x.is(3), 0);
        x.run(1);
        Due.is("15 no INNER PAGE for ACT 9", x.told(1, 5, 0), -1);
        x.hand(0);
        x.run(1);
        Due.is("15 nor then", x.told(1, 5, 0), -1);
        Due.is("27 REASON stays", x.is(15), 1);
    }

    private static void putBy() {
        GuestLevels x = new GuestLevels();
        x.entry(1, 3, 4, 1);
        x.entry(1, 5, 4, 1);
        for (int i = 0; i < 3; i++) x.act(2, 4, 0, 0);
        x.send(2, 6);
        x.enter();
        x.run(2);
        x.entry(0, 1, 2, 7);
        x.open(1, true);
        x.send(1, 9);
        x.send(2, 11);
        x.hand(2);
        Due.is("49 TABLE 0", x.putBy(0, 0), 1);
        Due.is("49 TABLE 1", x.putBy(0, 1), 2);
        Due.is("49 PLACE", x.putBy(0, 2), 2);
        Due.is("49 PENDING", x.putBy(0, 3), 2048);
        Due.is("49 IN SERVICE", x.putBy(0, 4), 64);
        Due.is("49 OPEN", x.putBy(0, 5), 1);
        Due.is("49 ACTS", x.putBy(0, 6), 3);
        Due.is("49 OPEN of another one", x.putBy(1, 5), 0);
        Due.is("49 IN HAND", x.putBy(2, 0), -1);
        Due.is("49 guest 3", x.putBy(3, 0), -1);
        Due.is("49 guest -1", x.putBy(-1, 0), -1);
        Due.is("49 what 7", x.putBy(0, 7), -1);
        Due.is("49 what -1", x.putBy(0, -1), -1);
    }

    private static void spent() {
        GuestLevels x = new GuestLevels();
        x.pass(3);
        x.enter();
        x.pass(5);
        x.open(1, true);
        x.send(1, 1);
        x.hand(2);
        x.pass(2);
        x.enter();
        x.pass(7);
        Due.is("50 outer guest", x.spent(0), 5);
        Due.is("50 inner guest 0", x.spent(1), 5);
        Due.is("50 inner guest 1", x.spent(2), 0);
        Due.is("50 inner guest 2", x.spent(3), 7);
        Due.is("50 by 4", x.spent(4), -1);
        Due.is("50 by -1", x.spent(-1), -1);
    }

    private static void taken() {
        GuestLevels x = new GuestLevels();
        Due.is("53 none", x.taken(1), -1);
        x.open(1, true);
        x.send(1, 4);
        Due.is("53 outer guest", x.taken(1), 4);
        Due.is("53 inner guest", x.taken(2), -1);
        x.finish();
        x.send(1, 2);
        Due.is("53 the latest", x.taken(1), 2);
        Due.is("53 guest 0", x.taken(0), -1);
        Due.is("53 guest 3", x.taken(3), -1);
    }

    private static void longest() {
        GuestLevels x = new GuestLevels();
        Due.is("54 none", x.longest(1), -1);
        x.send(1, 4);
        x.send(2, 5);
        x.pass(6);
        x.send(1, 3);
        x.open(1, true);
        Due.is("54 TIME between", x.longest(1), 6);
        x.finish();
        Due.is("54 the most", x.longest(1), 6);
        x.hand(1);
        x.send(2, 1);
        x.pass(2);
        x.open(2, true);
        x.enter();
        Due.is("54 inner guest 1", x.longest(2), 2);
        x.send(1, 9);
        x.hand(0);
        x.open(2, true);
        x.enter();
        Due.is("54 of whichever inner guest", x.longest(2), 8);
        Due.is("54 guest 0", x.longest(0), -1);
        Due.is("54 guest 3", x.longest(3), -1);
    }

    private static void pendingFor() {
        GuestLevels x = new GuestLevels();
        x.send(1, 0);
        x.pass(3);
        x.send(2, 15);
        x.pass(4);
        Due.is("55 outer", x.pendingFor(1, 0), 7);
        Due.is("55 inner", x.pendingFor(2, 15), 4);
        Due.is("55 isn't", x.pendingFor(2, 0), -1);
        Due.is("55 VECTOR 16", x.pendingFor(1, 16), -1);
        Due.is("55 VECTOR -1", x.pendingFor(1, -1), -1);
        Due.is("55 guest 0", x.pendingFor(0, 0), -1);
        Due.is("55 guest 3", x.pendingFor(3, 0), -1);
        x.timer(1, 9, 0);
        x.pass(5);
        Due.is("55 a TIMER's VECTOR that was PENDING already", x.pendingFor(1, 0), 12);
    }
}
