/** Objects of GuestLevels in states from which many tests begin. */
final class Made {
    private Made() {
    }

    static GuestLevels fresh() {
        return new GuestLevels();
    }

    /** LEVEL 2, nothing told but that. */
    static GuestLevels entered() {
        GuestLevels x = new GuestLevels();
        x.enter();
        return x;
    }

    /** Below n: VIRTUAL PAGE p to INNER PAGE p to OUTER PAGE p to FRAME p % 10, all RIGHTS; LEVEL 2. */
    static GuestLevels straight(int n) {
        GuestLevels x = new GuestLevels();
        for (int p = 0; p < n; p++) {
            x.entry(1, p, p, 7);
            x.entry(2, p, p % 10, 7);
        }
        x.enter();
        for (int p = 0; p < n; p++) x.entry(0, p, p, 7);
        return x;
    }

    /** VIRTUAL PAGE 3 to INNER PAGE 5 to OUTER PAGE 2 to FRAME 4, by these RIGHTS (0: no ENTRY); LEVEL 2. */
    static GuestLevels led(int rights0, int rights1, int rights2) {
        GuestLevels x = new GuestLevels();
        if (rights1 != 0) x.entry(1, 5, 2, rights1);
        if (rights2 != 0) x.entry(2, 2, 4, rights2);
        x.enter();
        if (rights0 != 0) x.entry(0, 3, 5, rights0);
        return x;
    }

    /** From LEVEL 2 to LEVEL 1: by a VECTOR that the outer guest takes and ends. */
    static void leave(GuestLevels x) {
        x.open(1, true);
        x.send(1, 15);
        x.finish();
        x.open(1, false);
    }

    /** n EXITS that the host sees, of the outer guest's EVENTS 0, 1, 2 .. round; LEVEL 1. */
    static void exits(GuestLevels x, int n) {
        x.want(0, 255);
        for (int i = 0; i < n; i++) x.event(i % 8);
    }

    /** An object whose TIME is 99800 behind 499 calls. */
    static GuestLevels late() {
        GuestLevels x = new GuestLevels();
        for (int i = 0; i < 499; i++) x.pass(200);
        return x;
    }
}
