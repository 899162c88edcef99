/** Promises 16 to 22, 31, 56 to 58: CLOCKS, TIMERS, HANDLERS, SLICE, TIME. */
public final class TimePromisesTest {
    private TimePromisesTest() {
    }

    public static void main(String[] args) {
        scale();
        timer();
        cancel();
        handler();
        handlerLeads();
        slice();
        forget();
        pass();
        passToTheEnd();
        neverDueAtTheEnd();
        passDealsOut();
        timersInOrder();
        timed();
        timedByScales();
        first();
        Due.end();
    }

    private static void scale() {
        GuestLevels x = new GuestLevels();
        Due.yes("16 outer", x.scale(1, 64, 9999));
        Due.yes("16 inner", x.scale(2, 1, -9999));
        Due.no("16 SCALE 0", x.scale(1, 0, 0));
        Due.no("16 SCALE 65", x.scale(1, 65, 0));
        Due.no("16 OFFSET 10000", x.scale(1, 1, 10000));
        Due.no("16 OFFSET -10000", x.scale(1, 1, -10000));
        Due.no("16 guest 0", x.scale(0, 1, 0));
        Due.no("16 guest 3", x.scale(3, 1, 0));
        Due.is("16 STEPS", x.steps(), 2);
        Due.is("56 outer", x.clock(1), 9999);
        Due.is("56 inner", x.clock(2), 624 - 9999);
        x.scale(1, 5, -20);
        x.pass(7);
        Due.is("56 host", x.clock(0), 7);
        Due.is("56 outer, downward", x.clock(1), 2 - 20);
        Due.is("56 inner, downward below 0", x.clock(2), -2 - 9999);
        Due.is("56 LEVEL 3", x.clock(3), -1000000000);
        Due.is("56 LEVEL -1", x.clock(-1), -1000000000);
    }

    private static void timer() {
        GuestLevels x = new GuestLevels();
        Due.is("17 LEVEL 3", x.timer(3, 0, 0), -1);
        Due.is("17 LEVEL -1", x.timer(-1, 0, 0), -1);
        Due.is("17 DEADLINE above", x.timer(0, 1000000, 0), -1);
        Due.is("17 DEADLINE below", x.timer(0, -100000, 0), -1);
        Due.is("17 VECTOR 16", x.timer(0, 0, 16), -1);
        Due.is("17 VECTOR -1", x.timer(0, 0, -1), -1);
        Due.is("17 no STEP", x.steps(), 0);
        Due.is("17 first", x.timer(0, 999999, 15), 1);
        Due.is("17 second", x.timer(2, -99999, 0), 2);
        for (int i = 3; i <= 12; i++) Due.is("17 how many", x.timer(1, 50000, 3), i);
        Due.is("17 the 13th", x.timer(1, 50000, 3), -1);
        Due.is("57 how many", x.timed(-1, 0), 12);
    }

    private static void cancel() {
        GuestLevels x = new GuestLevels();
        x.timer(0, 10, 1);
        x.timer(1, 20, 2);
        x.timer(2, 30, 3);
        Due.no("18 i 3", x.cancel(3));
        Due.no("18 i -1", x.cancel(-1));
        Due.yes("18 i 1", x.cancel(1));
        Due.is("18 how many", x.timed(-1, 0), 2);
        Due.is("18 the next one", x.timed(1, 1), 30);
        Due.is("18 the one ahead", x.timed(0, 1), 10);
        Due.is("18 STEPS", x.steps(), 4);
        Due.yes("18 i 1 again", x.cancel(1));
        Due.yes("18 i 0", x.cancel(0));
        Due.no("18 none", x.cancel(0));
    }

    private static void handler() {
        GuestLevels x = new GuestLevels();
        for (int reason = -1; reason <= 10; reason++) {
            boolean may = reason == 1 || reason == 4 || reason == 6 || reason == 8;
            Due.is("31 none", x.handled(reason), -1);
            Due.is("19 REASON", x.handler(reason, 23) ? 1 : 0, may ? 1 : 0);
            Due.is("31 REASON", x.handled(reason), may ? 23 : -1);
        }
        Due.no("19 PLACE 24", x.handler(1, 24));
        Due.no("19 PLACE -2", x.handler(1, -2));
        Due.yes("19 NONE", x.handler(1, -1));
        Due.is("31 none any more", x.handled(1), -1);
        Due.is("31 of another REASON", x.handled(4), 23);
        Due.is("19 STEPS", x.steps(), 5);
    }

    private static void handlerLeads() {
        GuestLevels x = new GuestLevels();
        for (int i = 0; i < 4; i++) x.act(1, 4, 0, 0);
        x.handler(1, 3);
        x.handler(4, 2);
        x.handler(6, 1);
        x.handler(8, 4);
        x.want(1, 2);
        x.slice(1);
        x.enter();
        x.entry(0, 0, 0, 7);
        x.touch(0, 0, 0);
        Due.is("19 REASON 1", x.is(11), 3);
        x.enter();
        x.event(1);
        Due.is("19 REASON 4", x.is(11), 2);
        x.enter();
        x.pass(1);
        Due.is("19 REASON 8", x.is(15), 8);
        Due.is("19 PROGRAM (1) hasn't that PLACE", x.is(11), 2);
        x.enter();
        x.open(1, true);
        x.send(1, 1);
        Due.is("19 REASON 6", x.is(11), 1);
    }

    private static void slice() {
        GuestLevels x = new GuestLevels();
        Due.no("20 100", x.slice(100));
        Due.no("20 -1", x.slice(-1));
        Due.yes("20 99", x.slice(99));
        Due.yes("20 3", x.slice(3));
        Due.is("27 SLICE", x.is(13), 3);
        x.pass(9);
        Due.is("20 not in LEVEL 1", x.is(14), 0);
        x.enter();
        x.pass(2);
        Due.is("27 LEFT", x.is(14), 1);
        Due.is("27 LEVEL", x.is(0), 2);
        x.pass(1);
        Due.is("27 LEVEL then", x.is(0), 1);
        Due.is("27 REASON 8", x.is(15), 8);
        Due.is("27 DETAIL", x.is(16), 3);
        Due.is("27 LEFT then", x.is(14), 0);
        x.slice(0);
        x.enter();
        x.pass(50);
        Due.is("20 SLICE 0: none", x.is(0), 2);
        Due.is("20 LEFT stays", x.is(14), 0);
        x.slice(7);
        x.pass(1);
        Due.is("20 LEFT below 0", x.is(14), -1);
        Due.is("20 DETAIL is SLICE", x.is(16), 7);
    }

    private static void forget() {
        GuestLevels x = new GuestLevels();
        for (int p = 0; p < 4; p++) x.touch(p, 1, p);
        Due.is("37 CHANGED", x.changed(), 15);
        Due.is("21 how many", x.forget(), 4);
        Due.is("37 forgotten", x.changed(), 0);
        x.touch(2, 1, 2);
        Due.is("37 again", x.changed(), 4);
    }

    private static void pass() {
        GuestLevels x = new GuestLevels();
        Due.is("22 n 0", x.pass(0), -1);
        Due.is("22 n -1", x.pass(-1), -1);
        Due.is("22 n 201", x.pass(201), -1);
        Due.is("22 no STEP", x.steps(), 0);
        x.act(1, 6, 0, 0);
        Due.is("22 none was due", x.pass(200), 0);
        Due.is("27 TIME", x.is(1), 200);
        Due.is("22 no ACT is done", x.is(0), 1);
        x.timer(0, 0, 9);
        x.timer(1, 202, 9);
        x.timer(1, 203, 8);
        Due.is("22 two were due", x.pass(2), 2);
        Due.is("46 REASON 7", x.exits(7), 1);
        Due.is("45 DETAIL", x.exit(0, 2), 9);
        Due.is("45 TIME", x.exit(0, 3), 201);
        Due.is("47 PENDING", x.pending(1), 512);
        Due.is("57 one is left", x.timed(-1, 0), 1);
    }

    private static void passToTheEnd() {
        GuestLevels x = Made.late();
        Due.is("27 TIME", x.is(1), 99800);
        Due.is("22 above 99999", x.pass(200), -1);
        Due.is("25 above 99999", x.run(200), -1);
        Due.is("22 to 99998", x.pass(198), 0);
        x.timer(0, 5, 5);
        Due.is("57 DUE at 99999", x.timed(0, 3), 99999);
        x.cancel(0);
        Due.is("22 to 99999", x.run(1), 0);
        Due.is("27 the last TIME", x.is(1), 99999);
        Due.is("22 one more", x.pass(1), -1);
        Due.is("25 one more", x.run(1), -1);
        Due.is("61 none", x.till(), -1);
    }

    private static void neverDueAtTheEnd() {
        GuestLevels x = Made.late();
        Due.is("60 above 99999", x.foretold(200, 1), -1);
        x.pass(199);
        x.timer(0, 5, 5);
        Due.is("57 never DUE", x.timed(0, 3), -1);
        Due.is("58 none", x.first(), -1);
    }

    private static void passDealsOut() {
        GuestLevels x = new GuestLevels();
        x.open(1, true);
        x.timer(1, 2, 3);
        x.timer(1, 4, 5);
        x.enter();
        x.pass(5);
        Due.is("22 DEALT OUT each time: longest", x.longest(1), 0);
        Due.is("22 the first took LEVEL 1", x.exits(6), 1);
        Due.is("48 both", x.service(1), 40);
        Due.is("50 inner", x.spent(1), 2);
        Due.is("50 outer", x.spent(0), 3);
    }

    private static void timersInOrder() {
        GuestLevels x = new GuestLevels();
        x.timer(1, 1, 4);
        x.timer(0, 1, 7);
        x.timer(0, 0, 6);
        x.timer(0, -5, 5);
        x.timer(0, 0, 3);
        x.timer(2, 1, 2);
        Due.is("22 all", x.pass(1), 6);
        int[] due = {5, 6, 3, 7};
        for (int i = 0; i < 4; i++) Due.is("22 order", x.exit(i, 2), due[i]);
        Due.is("47 outer", x.pending(1), 16);
        Due.is("47 inner", x.pending(2), 4);
        for (int i = 0; i < 12; i++) x.timer(1, -i, i);
        Due.is("22 twelve at once", x.pass(20), 12);
        Due.is("57 none is left", x.timed(-1, 0), 0);
        Due.is("47 all", x.pending(1), 4095);
        Due.is("55 at once", x.pendingFor(1, 11), 19);
        Due.is("55 and the first", x.pendingFor(1, 0), 19);
    }

    private static void timed() {
        GuestLevels x = new GuestLevels();
        x.pass(10);
        x.timer(2, 40, 6);
        x.timer(0, -99999, 1);
        x.timer(0, 100000, 2);
        x.timer(0, 99999, 2);
        Due.is("57 LEVEL", x.timed(0, 0), 2);
        Due.is("57 DEADLINE", x.timed(0, 1), 40);
        Due.is("57 VECTOR", x.timed(0, 2), 6);
        Due.is("57 DUE", x.timed(0, 3), 40);
        Due.is("57 behind this TIME", x.timed(1, 3), 11);
        Due.is("57 not up to 99999", x.timed(2, 3), -1);
        Due.is("57 at 99999", x.timed(3, 3), 99999);
        Due.is("57 i 4", x.timed(4, 0), -1000000000);
        Due.is("57 i -2", x.timed(-2, 0), -1000000000);
        Due.is("57 what 4", x.timed(0, 4), -1000000000);
        Due.is("57 what -1", x.timed(0, -1), -1000000000);
        Due.is("57 how many", x.timed(-1, 3), 4);
    }

    private static void timedByScales() {
        GuestLevels x = new GuestLevels();
        x.scale(1, 3, -2);
        x.scale(2, 40, 1);
        x.timer(2, 12, 0);
        x.timer(1, 12, 0);
        int innerDue = x.timed(0, 3);
        int outerDue = x.timed(1, 3);
        // outer: 3 t / 16 - 2 >= 12 at 3 t >= 224; inner: 40 c / 16 + 1 >= 12 at c >= 5, 3 t >= 112
        Due.is("57 outer", outerDue, 75);
        Due.is("57 inner", innerDue, 38);
        Due.is("58 the inner one", x.first(), 0);
        x.pass(37);
        Due.is("57 not yet", x.timed(-1, 0), 2);
        Due.is("22 due", x.pass(1), 1);
        x.scale(1, 64, 0);
        Due.is("57 told otherwise", x.timed(0, 3), 39);
    }

    private static void first() {
        GuestLevels x = new GuestLevels();
        Due.is("58 none", x.first(), -1);
        x.timer(0, 999999, 0);
        Due.is("58 none that is", x.first(), -1);
        x.timer(2, 5, 0);
        Due.is("58 that one", x.first(), 1);
        x.timer(1, 5, 0);
        Due.is("58 LEVEL first", x.first(), 2);
        x.timer(1, 5, 1);
        Due.is("58 told first", x.first(), 2);
        x.timer(1, 4, 1);
        Due.is("58 earlier", x.first(), 4);
        x.pass(4);
        Due.is("58 then", x.first(), 2);
        x.timer(1, 3, 1);
        Due.is("58 least DEADLINE", x.first(), 4);
    }
}
