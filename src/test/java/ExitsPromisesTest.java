/** Promises 7 to 11, 35, 36, 43 to 46, 51: what is TOUCHED, EVENTS, EXITS. */
public final class ExitsPromisesTest {
    private ExitsPromisesTest() {
    }

    public static void main(String[] args) {
        trapPlace();
        want();
        touchByInner();
        touchByInnerSwaps();
        touchByOuter();
        touchOthers();
        eventOfInner();
        eventOfOuter();
        enter();
        trapped();
        heard();
        wantedAndWhose();
        exit();
        exits();
        seenOf();
        Due.end();
    }

    private static void trapPlace() {
        GuestLevels x = new GuestLevels();
        Due.yes("7 place 23", x.trapPlace(23));
        Due.is("35 TRAP PLACE", x.trapped(2), 23);
        Due.yes("7 NONE", x.trapPlace(-1));
        Due.is("35 none", x.trapped(2), -1);
        Due.no("7 place 24", x.trapPlace(24));
        Due.no("7 place -2", x.trapPlace(-2));
        Due.is("7 STEPS", x.steps(), 2);
    }

    private static void want() {
        GuestLevels x = new GuestLevels();
        Due.yes("8 by the host", x.want(0, 255));
        Due.yes("8 by the outer guest", x.want(1, 0));
        Due.no("8 256", x.want(0, 256));
        Due.no("8 -1", x.want(0, -1));
        Due.no("8 by 2", x.want(2, 1));
        Due.no("8 by -1", x.want(-1, 1));
        x.enter();
        Due.no("8 by the outer guest in LEVEL 2", x.want(1, 1));
        Due.yes("8 by the host in LEVEL 2", x.want(0, 3));
        Due.is("43 by the host", x.wanted(0), 3);
    }

    private static void touchByInner() {
        GuestLevels x = new GuestLevels();
        x.entry(1, 1, 2, 3);
        x.entry(1, 3, 4, 7);
        x.entry(2, 4, 6, 1);
        x.enter();
        x.entry(0, 0, 1, 7);
        x.entry(0, 5, 3, 7);
        x.entry(0, 6, 7, 1);
        Due.is("9 no ENTRY of TABLE 0", x.touch(1, 0, 0), -2);
        Due.is("9 not that RIGHT", x.touch(6, 1, 0), -2);
        Due.is("9 GIVEN a FRAME", x.touch(0, 1, 9999), 9999);
        Due.is("9 that is EXIT 0", x.exit(0, 1), 2);
        Due.is("9 its DETAIL", x.exit(0, 2), 5);
        Due.is("9 FOLDED", x.told(3, 1, 1), 3);
        Due.is("9 FOLDED: no EXIT", x.touch(0, 0, -7), 9999);
        Due.is("9 EXITS", x.is(5), 1);
        Due.is("9 TABLE 2 gives not WRITE", x.touch(5, 1, 1), -4);
        Due.is("9 not FOLDED", x.told(3, 3, 0), -1);
        Due.is("9 seen by the host", x.exit(1, 2), 13);
        Due.is("9 READ there", x.touch(5, 0, 0), 66);
        Due.is("9 RUN isn't a RIGHT of TABLE 1", x.touch(0, 2, 0), -3);
        Due.is("9 LEVEL", x.is(0), 1);
        Due.is("27 REASON", x.is(15), 1);
        Due.is("27 DETAIL", x.is(16), 6);
        x.enter();
        Due.is("9 no ENTRY of TABLE 1", x.touch(6, 0, 0), -3);
        Due.is("27 DETAIL", x.is(16), 28);
    }

    private static void touchByInnerSwaps() {
        GuestLevels x = new GuestLevels();
        for (int p = 0; p < 11; p++) x.entry(1, p, p, 7);
        x.room(16);
        x.enter();
        for (int p = 0; p < 11; p++) x.entry(0, p, p, 7);
        for (int p = 0; p < 10; p++) x.touch(p, 1, 50 + p);
        Due.is("9 all are FOLDED", x.is(3), 10);
        Due.is("9 another one", x.touch(10, 0, 0), 0);
        Due.is("9 the SWAPPED one is FOLDED no more", x.told(3, 0, 0), -1);
        Due.is("9 the other one is", x.told(3, 10, 0), 0);
        Due.is("9 its VALUE comes back", x.touch(0, 0, 0), 50);
        Due.is("9 in the place of the next one", x.told(3, 1, 0), -1);
        Due.is("27 SWAPPED", x.is(8), 2);
    }

    private static void touchByOuter() {
        GuestLevels x = new GuestLevels();
        x.entry(2, 3, 3, 2);
        Due.is("9 WRITE", x.touch(3, 1, 7), 7);
        Due.is("9 no EXIT", x.exit(-1, 0), 0);
        Due.is("9 READ isn't a RIGHT", x.touch(3, 0, 0), -4);
        Due.is("9 REASON 3", x.exit(0, 1), 3);
        Due.is("9 DETAIL", x.exit(0, 2), 76);
        Due.is("9 RUN", x.touch(15, 2, 0), 0);
        Due.is("9 GIVEN", x.told(2, 15, 0), 0);
        Due.is("9 REASON 2", x.exit(1, 1), 2);
        Due.is("9 DETAIL", x.exit(1, 2), 126);
        Due.is("9 all RIGHTS", x.told(2, 15, 1), 7);
        Due.is("36 the outer guest isn't HEARD", x.heard(-1), 0);
    }

    private static void touchOthers() {
        GuestLevels x = new GuestLevels();
        Due.is("9 page 16", x.touch(16, 0, 0), -1);
        Due.is("9 page -1", x.touch(-1, 0, 0), -1);
        Due.is("9 WAY 3", x.touch(0, 3, 0), -1);
        Due.is("9 WAY -1", x.touch(0, -1, 0), -1);
        Due.is("9 VALUE 10000", x.touch(0, 1, 10000), -1);
        Due.is("9 VALUE -1", x.touch(0, 1, -1), -1);
        Due.is("9 no STEP", x.steps(), 0);
        Due.is("9 VALUE is for WRITE alone", x.touch(0, 0, 10000), 0);
        Due.is("9 a STEP", x.steps(), 1);
    }

    private static void eventOfInner() {
        GuestLevels x = new GuestLevels();
        x.want(0, 0b0110);
        x.want(1, 0b1100);
        x.enter();
        Due.is("10 nobody's but its own", x.event(0), 2);
        Due.is("10 the host's", x.event(1), 0);
        Due.is("10 REASON 4", x.exit(0, 1), 4);
        Due.is("10 LEVEL yet", x.is(0), 2);
        Due.is("10 both want it: the outer guest's", x.event(2), 1);
        Due.is("10 LEVEL then", x.is(0), 1);
        Due.is("10 who", x.exit(1, 0), 1);
        Due.is("10 REASON 4", x.exit(1, 1), 4);
        Due.is("10 DETAIL", x.exit(1, 2), 2);
        x.enter();
        Due.is("10 the outer guest's", x.event(3), 1);
        Due.is("10 event 8", x.event(8), -1);
        Due.is("10 event -1", x.event(-1), -1);
        Due.is("7 EVENT 0 alone is no TRAP", x.is(7), 0);
    }

    private static void eventOfOuter() {
        GuestLevels x = new GuestLevels();
        x.want(0, 128);
        x.want(1, 255);
        Due.is("10 its own", x.event(6), 2);
        Due.is("10 no EXIT", x.exit(-1, 0), 0);
        Due.is("10 the host's", x.event(7), 0);
        Due.is("10 REASON 5", x.exit(0, 1), 5);
        Due.is("10 DETAIL", x.exit(0, 2), 7);
    }

    private static void enter() {
        GuestLevels x = new GuestLevels();
        x.slice(9);
        Due.is("11 LEFT ahead", x.is(14), 0);
        Due.yes("11 enter", x.enter());
        Due.is("11 LEVEL", x.is(0), 2);
        Due.is("11 LEFT", x.is(14), 9);
        Due.no("11 in LEVEL 2", x.enter());
        Due.is("11 STEPS", x.steps(), 2);
    }

    private static void trapped() {
        GuestLevels x = new GuestLevels();
        x.enter();
        x.touch(7, 2, 0);
        Due.is("35 VIRTUAL PAGE", x.trapped(0), 7);
        Due.is("35 by hand no PLACE", x.trapped(1), -1);
        Due.is("27 TRAPPED", x.is(7), 1);
        x.want(0, 1);
        x.touch(8, 2, 0);
        Due.is("35 the host saw it: not TRAPPED", x.trapped(0), 7);
        Due.is("27 somebody wanted it", x.is(7), 1);
        Due.is("35 what 3", x.trapped(3), -1);
        Due.is("35 what -1", x.trapped(-1), -1);
        x.open(1, true);
        x.send(1, 1);
        x.want(1, 1);
        x.enter();
        Due.is("9 TRAPS, dealt to the outer guest", x.touch(9, 0, 0), -2);
        Due.is("9 LEVEL", x.is(0), 1);
        Due.is("35 not TRAPPED", x.trapped(0), 7);
    }

    private static void heard() {
        GuestLevels x = new GuestLevels();
        x.entry(1, 0, 0, 7);
        x.enter();
        x.entry(0, 0, 0, 7);
        Due.is("36 none", x.heard(-1), 0);
        for (int i = 0; i < 30; i++) {
            x.touch(0, 1, i);
            x.touch(0, i % 2 * 2, 0);
        }
        Due.is("36 the latest 24", x.heard(-1), 24);
        Due.is("36 the eldest", x.heard(0), 6);
        Due.is("36 the latest", x.heard(23), 29);
        Due.is("36 none", x.heard(24), -1);
        Due.is("36 -2", x.heard(-2), -1);
    }

    private static void wantedAndWhose() {
        GuestLevels x = new GuestLevels();
        x.want(0, 5);
        x.want(1, 6);
        Due.is("43 host", x.wanted(0), 5);
        Due.is("43 outer guest", x.wanted(1), 6);
        Due.is("43 either", x.wanted(2), 7);
        Due.is("43 by 3", x.wanted(3), -1);
        Due.is("43 by -1", x.wanted(-1), -1);
        Due.is("44 the host", x.whose(0), 0);
        Due.is("44 the outer guest", x.whose(1), 1);
        Due.is("44 both want it", x.whose(2), 1);
        Due.is("44 nobody", x.whose(3), 2);
        Due.is("44 event 8", x.whose(8), -1);
        Due.is("44 event -1", x.whose(-1), -1);
    }

    private static void exit() {
        GuestLevels x = new GuestLevels();
        x.want(0, 255);
        Due.is("45 none", x.exit(-1, 0), 0);
        Due.is("45 none", x.exit(0, 0), -2);
        for (int i = 0; i < 30; i++) {
            x.pass(1);
            x.event(i % 8);
        }
        Due.is("45 the latest 24", x.exit(-1, 0), 24);
        Due.is("45 who", x.exit(0, 0), 0);
        Due.is("45 REASON", x.exit(0, 1), 5);
        Due.is("45 DETAIL of the eldest", x.exit(0, 2), 6);
        Due.is("45 TIME of the eldest", x.exit(0, 3), 7);
        Due.is("45 DETAIL of the latest", x.exit(23, 2), 5);
        Due.is("45 TIME of the latest", x.exit(23, 3), 30);
        Due.is("45 the 25th", x.exit(24, 0), -2);
        Due.is("45 -2", x.exit(-2, 0), -2);
        Due.is("45 what 4", x.exit(0, 4), -2);
        Due.is("45 what -1", x.exit(0, -1), -2);
        Due.is("27 all are COUNTED", x.is(5), 30);
    }

    private static void exits() {
        GuestLevels x = new GuestLevels();
        x.want(0, 1);
        for (int i = 0; i < 20; i++) x.event(0);
        x.enter();
        for (int i = 0; i < 6; i++) x.event(0);
        Due.is("46 REASON 4", x.exits(4), 6);
        Due.is("46 REASON 5, the latest 24 alone", x.exits(5), 18);
        Due.is("46 none", x.exits(9), 0);
        Due.is("46 REASON 0", x.exits(0), 0);
        Due.is("46 REASON 10", x.exits(10), 0);
        Due.is("46 REASON -1", x.exits(-1), 0);
    }

    private static void seenOf() {
        GuestLevels x = new GuestLevels();
        x.want(0, 1);
        x.want(1, 2);
        x.event(0);
        x.event(1);
        x.enter();
        x.touch(0, 0, 0);
        x.event(7);
        x.event(1);
        Due.is("51 by the host, a TRAP and the outer guest's", x.seenOf(0, 0), 2);
        Due.is("51 dealt to the outer guest", x.seenOf(1, 1), 1);
        Due.is("51 the outer guest's own", x.seenOf(1, 2), 1);
        Due.is("51 the inner guest's own", x.seenOf(7, 2), 1);
        Due.is("51 none", x.seenOf(7, 0), 0);
        Due.is("51 event 8", x.seenOf(8, 0), -1);
        Due.is("51 event -1", x.seenOf(-1, 0), -1);
        Due.is("51 by 3", x.seenOf(0, 3), -1);
        Due.is("51 by -1", x.seenOf(0, -1), -1);
    }
}
