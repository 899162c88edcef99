import java.util.Arrays;

/**
 * Guests inside guests: an inner guest on an outer guest on a host.
 * The words in capitals are the document's own (../shared/DOC.md).
 */
public final class GuestLevels {
    public static final int NONE = -1;

    private static final int PAGES = 16;
    private static final int FRAMES = 10;
    private static final int VECTORS = 16;
    private static final int EVENTS = 8;
    private static final int INNER_GUESTS = 3;
    private static final int REASONS = 10;
    private static final int MOST_ACTS = 24;
    private static final int MOST_TIMERS = 12;
    private static final int MOST_WRITTEN = 24;
    private static final int MOST_STEPS = 20;
    private static final int MOST_GONE = 200;
    private static final int MOST_GONE_BY_ROOM = 100;
    private static final int MOST_VALUE = 9999;
    private static final int LAST_TIME = 99999;
    private static final int LAST_FIGURE = 17;

    private static final int READ = 0;
    private static final int WRITE = 1;
    private static final int RUN = 2;
    private static final int RIGHT_TO_WRITE = 2;
    private static final int ALL_RIGHTS = 7;

    private static final int HOST = 0;
    private static final int OUTER = 1;
    private static final int INNER = 2;
    private static final int NOBODY_ELSE = 2;

    private static final int TRAPS = -2;
    private static final int DEALT = -3;
    private static final int REFUSED = -4;
    private static final int NO_SUCH = -2;
    private static final int NO_CLOCK = -1000000000;

    private static final int NO_INNER_ENTRY = 1;
    private static final int NO_FOLDED_ENTRY = 2;
    private static final int NO_RIGHT = 3;
    private static final int WANTED_OF_INNER = 4;
    private static final int WANTED_OF_OUTER = 5;
    private static final int INTERRUPT = 6;
    private static final int HOST_TIMER = 7;
    private static final int SLICE_OVER = 8;
    private static final int COPY_WRITTEN = 9;

    private final Machine now = new Machine();
    private final Past past = new Past();
    private final Machine imaged = new Machine();
    private final Past imagedPast = new Past();
    /** What is FORETOLD is tried out here, so that nothing is changed by it. */
    private final Machine trial = new Machine();
    private final Plain plain = new Plain();

    public GuestLevels() {
    }

    public boolean entry(int table, int page, int to, int rights) {
        int targets = table == 2 ? FRAMES : PAGES;
        if (!now.mayTell(table) || !isPage(page) || !within(to, 0, targets - 1)
                || !within(rights, 1, ALL_RIGHTS)) {
            return false;
        }
        past.push(now);
        now.tellEntry(table, page, to, rights);
        now.dealOut();
        return true;
    }

    public boolean clear(int table, int page) {
        if (!now.mayTell(table) || !isPage(page) || !now.table(table).has(page)) {
            return false;
        }
        past.push(now);
        now.dropEntry(table, page);
        now.dealOut();
        return true;
    }

    public boolean room(int room) {
        if (!within(room, 1, PAGES)) {
            return false;
        }
        past.push(now);
        now.makeRoom(room);
        now.dealOut();
        return true;
    }

    public int foldAhead() {
        past.push(now);
        int count = now.foldLazyPages();
        now.dealOut();
        return count;
    }

    public int join() {
        past.push(now);
        int count = now.joinFrames();
        now.dealOut();
        return count;
    }

    public boolean trapPlace(int place) {
        if (!within(place, NONE, MOST_ACTS - 1)) {
            return false;
        }
        past.push(now);
        now.inHand().trapPlace = place;
        now.dealOut();
        return true;
    }

    public boolean want(int by, int events) {
        boolean may = by == HOST || by == OUTER && now.level == OUTER;
        if (!may || !within(events, 0, 255)) {
            return false;
        }
        past.push(now);
        now.wants[by] = events;
        now.dealOut();
        return true;
    }

    public int touch(int page, int way, int value) {
        if (!isPage(page) || !isWay(way) || way == WRITE && !within(value, 0, MOST_VALUE)) {
            return NONE;
        }
        past.push(now);
        int answer = now.level == INNER
                ? now.touchByInner(page, way, value)
                : now.touchByOuter(page, way, value);
        now.dealOut();
        return answer;
    }

    public int event(int event) {
        if (!isEvent(event)) {
            return NONE;
        }
        past.push(now);
        int seenBy = now.level == INNER ? now.eventOfInner(event) : now.eventOfOuter(event);
        now.dealOut();
        return seenBy;
    }

    public boolean enter() {
        if (now.level != OUTER) {
            return false;
        }
        past.push(now);
        now.enterInner();
        now.dealOut();
        return true;
    }

    public boolean send(int guest, int vector) {
        boolean may = guest == OUTER || guest == INNER && now.level == OUTER;
        if (!may || !isVector(vector) || now.guest(guest).awaits(vector)) {
            return false;
        }
        past.push(now);
        now.guest(guest).await(vector, now.time);
        now.dealOut();
        return true;
    }

    public boolean open(int guest, boolean is) {
        if (!isGuest(guest)) {
            return false;
        }
        past.push(now);
        now.guest(guest).opened = is;
        now.dealOut();
        return true;
    }

    public int finish() {
        if (now.guest(now.level).serving == 0) {
            return NONE;
        }
        past.push(now);
        int vector = now.guest(now.level).endService();
        now.dealOut();
        return vector;
    }

    public boolean hand(int guest) {
        if (now.level != OUTER || !isInnerGuest(guest) || guest == now.handed) {
            return false;
        }
        past.push(now);
        now.switchTo(guest);
        now.dealOut();
        return true;
    }

    public boolean scale(int guest, int scale, int offset) {
        if (!isGuest(guest) || !within(scale, 1, 64) || !within(offset, -9999, 9999)) {
            return false;
        }
        past.push(now);
        now.guest(guest).scale = scale;
        now.guest(guest).offset = offset;
        now.dealOut();
        return true;
    }

    public int timer(int level, int deadline, int vector) {
        if (!within(level, HOST, INNER) || !within(deadline, -99999, 999999)
                || !isVector(vector) || now.timers.size >= MOST_TIMERS) {
            return NONE;
        }
        past.push(now);
        now.timers.add(level, deadline, vector);
        now.dealOut();
        return now.timers.size;
    }

    public boolean cancel(int i) {
        if (!within(i, 0, now.timers.size - 1)) {
            return false;
        }
        past.push(now);
        now.timers.removeAt(i);
        now.dealOut();
        return true;
    }

    public boolean handler(int reason, int place) {
        if (!mayHaveHandler(reason) || !within(place, NONE, MOST_ACTS - 1)) {
            return false;
        }
        past.push(now);
        now.handlers[reason] = place;
        now.dealOut();
        return true;
    }

    public boolean slice(int slice) {
        if (!within(slice, 0, 99)) {
            return false;
        }
        past.push(now);
        now.slice = slice;
        now.dealOut();
        return true;
    }

    public int forget() {
        past.push(now);
        int count = Integer.bitCount(now.memory.changes);
        now.memory.changes = 0;
        now.dealOut();
        return count;
    }

    public int pass(int n) {
        if (!mayGo(n, MOST_GONE)) {
            return NONE;
        }
        past.push(now);
        int due = 0;
        for (int i = 0; i < n; i++) {
            due += now.timeGoesOn();
            now.dealOut();
        }
        return due;
    }

    public int act(int guest, int act, int a, int b) {
        if (!isGuest(guest) || !isAct(guest, act, a, b)) {
            return NONE;
        }
        Program program = now.guest(guest).program;
        if (program.size >= MOST_ACTS) {
            return NONE;
        }
        past.push(now);
        program.add(act, a, b);
        now.dealOut();
        return program.size;
    }

    public int wipe(int guest) {
        if (!isGuest(guest)) {
            return NONE;
        }
        past.push(now);
        Program program = now.guest(guest).program;
        int count = program.size;
        program.size = 0;
        program.place = 0;
        now.dealOut();
        return count;
    }

    public int run(int n) {
        if (!mayGo(n, MOST_GONE)) {
            return NONE;
        }
        past.push(now);
        int before = now.log.allExits();
        for (int i = 0; i < n; i++) {
            now.goOn();
        }
        return now.log.allExits() - before;
    }

    public int undo() {
        if (past.size == 0) {
            return NONE;
        }
        past.popInto(now);
        return past.size;
    }

    public int is(int what) {
        return now.figure(what);
    }

    public int told(int table, int page, int what) {
        if (!within(table, 0, 3) || !isPage(page) || !within(what, 0, 1)) {
            return NONE;
        }
        Table of = now.table(table);
        if (!of.has(page)) {
            return NONE;
        }
        return what == 0 ? of.to[page] : of.rights[page];
    }

    public int folded(int i) {
        return now.folds.byAge(i);
    }

    public int frame(int frame) {
        return isFrame(frame) ? now.memory.value[frame] : NONE;
    }

    public int handled(int reason) {
        return mayHaveHandler(reason) ? now.handlers[reason] : NONE;
    }

    public int stored(int page) {
        return isPage(page) ? now.memory.stored[page] : NONE;
    }

    public int backed(int i) {
        return now.memory.table.byAge(i);
    }

    public int copied() {
        return now.memory.copies;
    }

    public int trapped(int what) {
        switch (what) {
            case 0: return now.inHand().trappedPage;
            case 1: return now.inHand().trappedPlace;
            case 2: return now.inHand().trapPlace;
            default: return NONE;
        }
    }

    public int heard(int i) {
        return i == NONE ? now.log.heardKept() : now.log.heardAt(i);
    }

    public int changed() {
        return now.memory.changes;
    }

    public int walk(int page, int way) {
        return isPage(page) && isWay(way) ? now.walkTables(page, way) : NONE;
    }

    public int given(int page) {
        return isPage(page) ? now.rightsOfVirtual(page) : NONE;
    }

    public int lazy() {
        return now.lazyPages();
    }

    public int aliases(int frame) {
        return isFrame(frame) ? now.virtualPagesAt(frame) : NONE;
    }

    public int free() {
        return lowestOutside(now.memory.framesLedTo());
    }

    public int wanted(int by) {
        switch (by) {
            case HOST: return now.wants[HOST];
            case OUTER: return now.wants[OUTER];
            case 2: return now.wants[HOST] | now.wants[OUTER];
            default: return NONE;
        }
    }

    public int whose(int event) {
        return isEvent(event) ? now.seerOfInner(event) : NONE;
    }

    public int exit(int i, int what) {
        return i == NONE ? now.log.exitsKept() : now.log.exitAt(i, what);
    }

    public int exits(int reason) {
        return now.log.exitsBy(reason);
    }

    public int pending(int guest) {
        return isGuest(guest) ? now.guest(guest).waiting : NONE;
    }

    public int service(int guest) {
        return isGuest(guest) ? now.guest(guest).serving : NONE;
    }

    public int putBy(int guest, int what) {
        if (!isInnerGuest(guest) || guest == now.handed) {
            return NONE;
        }
        Inner inner = now.inners[guest];
        switch (what) {
            case 0: return inner.toInner.size();
            case 1: return inner.toOuter.size();
            case 2: return inner.guest.program.place;
            case 3: return inner.guest.waiting;
            case 4: return inner.guest.serving;
            case 5: return inner.guest.opened ? 1 : 0;
            case 6: return inner.guest.program.size;
            default: return NONE;
        }
    }

    public int spent(int by) {
        return within(by, 0, INNER_GUESTS) ? now.log.spentBy[by] : NONE;
    }

    public int seenOf(int event, int by) {
        return isEvent(event) && within(by, 0, 2) ? now.log.seenBy[3 * event + by] : NONE;
    }

    public boolean isOpen(int guest) {
        return isGuest(guest) && now.guest(guest).opened;
    }

    public int taken(int guest) {
        return isGuest(guest) ? now.log.latestTake[guest - 1] : NONE;
    }

    public int longest(int guest) {
        return isGuest(guest) ? now.log.longestWait[guest - 1] : NONE;
    }

    public int pendingFor(int guest, int vector) {
        if (!isGuest(guest) || !isVector(vector) || !now.guest(guest).awaits(vector)) {
            return NONE;
        }
        return now.time - now.guest(guest).since[vector];
    }

    public int clock(int level) {
        return within(level, HOST, INNER) ? now.clockAt(level, now.time) : NO_CLOCK;
    }

    public int timed(int i, int what) {
        if (i == NONE) {
            return now.timers.size;
        }
        if (!within(i, 0, now.timers.size - 1)) {
            return NO_CLOCK;
        }
        switch (what) {
            case 0: return now.timers.level[i];
            case 1: return now.timers.deadline[i];
            case 2: return now.timers.vector[i];
            case 3: return now.dueTime(i);
            default: return NO_CLOCK;
        }
    }

    public int first() {
        return now.firstDue();
    }

    public int program(int guest, int i, int what) {
        if (!isGuest(guest)) {
            return NO_SUCH;
        }
        Program program = now.guest(guest).program;
        if (i == NONE) {
            return program.size;
        }
        if (!within(i, 0, program.size - 1)) {
            return NO_SUCH;
        }
        switch (what) {
            case 0: return program.act[i];
            case 1: return program.a[i];
            case 2: return program.b[i];
            default: return NO_SUCH;
        }
    }

    public int foretold(int n, int what) {
        if (!mayGo(n, MOST_GONE) || !within(what, 0, LAST_FIGURE)) {
            return NONE;
        }
        trial.copyFrom(now);
        for (int i = 0; i < n; i++) {
            trial.goOn();
        }
        return trial.figure(what);
    }

    public int till() {
        trial.copyFrom(now);
        int most = Math.min(MOST_GONE, LAST_TIME - now.time);
        for (int i = 1; i <= most; i++) {
            trial.goOn();
            if (trial.log.exitsOf[OUTER] > now.log.exitsOf[OUTER]) {
                return i;
            }
        }
        return NONE;
    }

    public int waits(int guest) {
        if (!isGuest(guest)) {
            return NONE;
        }
        trial.copyFrom(now);
        int most = Math.min(MOST_GONE, LAST_TIME - now.time);
        for (int i = 1; i <= most; i++) {
            trial.goOn();
            if (trial.log.takes[guest - 1] > now.log.takes[guest - 1]) {
                return i;
            }
        }
        return NONE;
    }

    public int roomiest(int n) {
        if (!mayGo(n, MOST_GONE_BY_ROOM)) {
            return NONE;
        }
        int best = NONE;
        int fewest = 0;
        for (int room = 1; room <= PAGES; room++) {
            trial.copyFrom(now);
            trial.folds.dropAll();
            trial.room = room;
            for (int i = 0; i < n; i++) {
                trial.goOn();
            }
            if (best == NONE || trial.log.exitsOf[HOST] < fewest) {
                best = room;
                fewest = trial.log.exitsOf[HOST];
            }
        }
        return best;
    }

    public int plainly(int n, int page) {
        if (!within(n, 1, MOST_GONE) || !isPage(page)) {
            return NONE;
        }
        goPlainly(n);
        return plain.value[page];
    }

    public int plainTraps(int n) {
        if (!within(n, 1, MOST_GONE)) {
            return NONE;
        }
        goPlainly(n);
        return plain.traps;
    }

    public int plainHeard(int n) {
        if (!within(n, 1, MOST_GONE)) {
            return NONE;
        }
        goPlainly(n);
        return plain.latestHeard;
    }

    public long share() {
        return bitsOfQuotient(now.log.exitsOf[HOST], now.log.allExits());
    }

    public int image() {
        imaged.copyFrom(now);
        imagedPast.copyFrom(past);
        return now.time;
    }

    public int back() {
        now.copyFrom(imaged);
        past.copyFrom(imagedPast);
        return now.time;
    }

    public int steps() {
        return past.size;
    }

    private boolean mayGo(int n, int most) {
        return within(n, 1, most) && now.time + n <= LAST_TIME;
    }

    private void goPlainly(int n) {
        plain.startFrom(now);
        for (int i = 0; i < n; i++) {
            plain.goOn();
        }
    }

    private static boolean within(int number, int least, int most) {
        return number >= least && number <= most;
    }

    private static boolean isPage(int page) {
        return within(page, 0, PAGES - 1);
    }

    private static boolean isFrame(int frame) {
        return within(frame, 0, FRAMES - 1);
    }

    private static boolean isWay(int way) {
        return within(way, READ, RUN);
    }

    private static boolean isEvent(int event) {
        return within(event, 0, EVENTS - 1);
    }

    private static boolean isVector(int vector) {
        return within(vector, 0, VECTORS - 1);
    }

    /** The outer guest (1), the inner one that is IN HAND (2). */
    private static boolean isGuest(int guest) {
        return guest == OUTER || guest == INNER;
    }

    private static boolean isInnerGuest(int guest) {
        return within(guest, 0, INNER_GUESTS - 1);
    }

    private static boolean mayHaveHandler(int reason) {
        return reason == NO_INNER_ENTRY || reason == WANTED_OF_INNER
                || reason == INTERRUPT || reason == SLICE_OVER;
    }

    private static boolean isAct(int guest, int act, int a, int b) {
        return within(a, 0, mostOfA(guest, act)) && within(b, 0, mostOfB(guest, act));
    }

    /** The greatest a that an ACT takes, 0 where it needs none; NONE: there is no such ACT. */
    private static int mostOfA(int guest, int act) {
        switch (act) {
            case 0: case 1: case 2: case 8: return PAGES - 1;
            case 3: return EVENTS - 1;
            case 4: case 5: return 0;
            case 6: return guest == INNER ? PAGES - 1 : 0;
            case 7: case 9: return guest == OUTER ? PAGES - 1 : 0;
            case 10: return guest == OUTER ? 0 : NONE;
            case 11: return guest == OUTER ? INNER_GUESTS - 1 : NONE;
            default: return NONE;
        }
    }

    private static int mostOfB(int guest, int act) {
        boolean tellsEntry = guest == OUTER ? act == 7 : act == 6;
        if (act == 1) {
            return MOST_VALUE;
        }
        return tellsEntry ? PAGES - 1 : 0;
    }

    private static boolean hasBit(int bits, int k) {
        return (bits >> k & 1) != 0;
    }

    /** The greatest of these VECTORS (bits). NONE: there is none. */
    private static int greatestOf(int vectors) {
        for (int vector = VECTORS - 1; vector >= 0; vector--) {
            if ((vectors >> vector & 1) != 0) {
                return vector;
            }
        }
        return NONE;
    }

    /** The lowest FRAME that isn't among these (bits). NONE: all are. */
    private static int lowestOutside(int frames) {
        for (int frame = 0; frame < FRAMES; frame++) {
            if ((frames >> frame & 1) == 0) {
                return frame;
            }
        }
        return NONE;
    }

    /** The bits of part / all as a double, which lies in 0 .. 1; 0 if all is. */
    private static long bitsOfQuotient(int part, int all) {
        if (part <= 0 || all < part) {
            return 0L;
        }
        double quotient = (double) part / (double) all;
        long exponent = 1023L;
        // doubling is exact, and 32 times are enough for a quotient of two ints
        for (int i = 0; i < 32 && quotient < 1.0; i++) {
            quotient = quotient * 2.0;
            exponent--;
        }
        long fraction = (long) ((quotient - 1.0) * 4503599627370496.0);
        return (exponent << 52) + fraction;
    }

    /** ENTRIES by PAGE: where each leads, its RIGHTS, and when it came. */
    private static final class Table {
        final int[] to = new int[PAGES];
        final int[] rights = new int[PAGES];
        final int[] came = new int[PAGES];
        int comings;

        Table() {
            Arrays.fill(to, NONE);
        }

        void copyFrom(Table other) {
            System.arraycopy(other.to, 0, to, 0, PAGES);
            System.arraycopy(other.rights, 0, rights, 0, PAGES);
            System.arraycopy(other.came, 0, came, 0, PAGES);
            comings = other.comings;
        }

        boolean has(int page) {
            return to[page] != NONE;
        }

        boolean gives(int page, int way) {
            return hasBit(rights[page], way);
        }

        void put(int page, int target, int right) {
            to[page] = target;
            rights[page] = right;
            came[page] = comings;
            comings++;
        }

        void drop(int page) {
            to[page] = NONE;
            rights[page] = 0;
        }

        void dropAll() {
            Arrays.fill(to, NONE);
            Arrays.fill(rights, 0);
        }

        void dropEldest() {
            int page = eldest();
            if (page != NONE) {
                drop(page);
            }
        }

        int size() {
            int count = 0;
            for (int page = 0; page < PAGES; page++) {
                if (to[page] != NONE) {
                    count++;
                }
            }
            return count;
        }

        /** The PAGE whose ENTRY came longest ago. NONE: there is none. */
        int eldest() {
            int eldest = NONE;
            for (int page = 0; page < PAGES; page++) {
                if (to[page] != NONE && (eldest == NONE || came[page] < came[eldest])) {
                    eldest = page;
                }
            }
            return eldest;
        }

        /** The i-th PAGE with an ENTRY by when that came, longest ago first. NONE: there is none. */
        int byAge(int i) {
            for (int page = 0; page < PAGES; page++) {
                if (to[page] != NONE && elderThan(page) == i) {
                    return page;
                }
            }
            return NONE;
        }

        private int elderThan(int page) {
            int count = 0;
            for (int other = 0; other < PAGES; other++) {
                if (to[other] != NONE && came[other] < came[page]) {
                    count++;
                }
            }
            return count;
        }
    }

    /** TABLE 2, the FRAMES to which it leads, and what is STORED for OUTER PAGES. */
    private static final class Memory {
        final Table table = new Table();
        final int[] value = new int[FRAMES];
        final int[] stored = new int[PAGES];
        int copies;
        int changes;
        int swaps;

        Memory() {
            for (int frame = 0; frame < FRAMES; frame++) {
                value[frame] = frame * 11;
            }
            Arrays.fill(stored, NONE);
        }

        void copyFrom(Memory other) {
            table.copyFrom(other.table);
            System.arraycopy(other.value, 0, value, 0, FRAMES);
            System.arraycopy(other.stored, 0, stored, 0, PAGES);
            copies = other.copies;
            changes = other.changes;
            swaps = other.swaps;
        }

        void tell(int page, int frame, int rights) {
            table.put(page, frame, rights);
            copies &= ~(1 << page);
            stored[page] = NONE;
        }

        void untell(int page) {
            table.drop(page);
            copies &= ~(1 << page);
            stored[page] = NONE;
        }

        /** The RIGHTS of an ENTRY, but that a COPIED ONE doesn't give WRITE; 0 without an ENTRY. */
        int rightsGiven(int page) {
            boolean isCopy = (copies >> page & 1) != 0;
            return isCopy ? table.rights[page] & ~RIGHT_TO_WRITE : table.rights[page];
        }

        /** Whether WRITE there is asked of a COPIED ONE that has that RIGHT. */
        boolean partsOnWrite(int page) {
            return hasBit(copies, page) && hasBit(table.rights[page], WRITE);
        }

        int framesLedTo() {
            int frames = 0;
            for (int page = 0; page < PAGES; page++) {
                if (table.to[page] != NONE) {
                    frames |= 1 << table.to[page];
                }
            }
            return frames;
        }

        int framesFree() {
            return FRAMES - Integer.bitCount(framesLedTo());
        }

        int touchFrame(int frame, int way, int written) {
            if (way == WRITE) {
                value[frame] = written;
                changes |= 1 << frame;
            }
            return value[frame];
        }

        /** GIVEN a FRAME; the answer: OUTER PAGES whose ENTRIES are others then, or gone (bits). */
        int give(int page) {
            int touched = 1 << page;
            int frame = lowestOutside(framesLedTo());
            for (int i = 0; i < PAGES && frame == NONE; i++) {
                int eldest = table.eldest();
                if (eldest == NONE) {
                    break;
                }
                storeAway(eldest);
                swaps++;
                touched |= 1 << eldest;
                frame = lowestOutside(framesLedTo());
            }
            if (frame == NONE) {
                return touched;
            }
            table.put(page, frame, ALL_RIGHTS);
            copies &= ~(1 << page);
            value[frame] = Math.max(stored[page], 0);
            stored[page] = NONE;
            changes |= 1 << frame;
            return touched;
        }

        /** PARTED, but for the FRAME that it is GIVEN behind this, if it has no ENTRY any more. */
        void part(int page) {
            if (sharesFrame(page)) {
                storeAway(page);
            } else {
                copies &= ~(1 << page);
            }
        }

        private boolean sharesFrame(int page) {
            for (int other = 0; other < PAGES; other++) {
                if (other != page && table.to[other] == table.to[page]) {
                    return true;
                }
            }
            return false;
        }

        /** The ENTRY is gone, the VALUE at its FRAME is STORED. */
        private void storeAway(int page) {
            int frame = table.to[page];
            if (frame == NONE) {
                return;
            }
            stored[page] = value[frame];
            table.to[page] = NONE;
            table.rights[page] = 0;
            copies &= ~(1 << page);
        }

        boolean areLike(int frame, int other) {
            int led = framesLedTo();
            return hasBit(led, frame) && hasBit(led, other) && value[frame] == value[other];
        }

        /** What leads to the other FRAME leads to this one; the answer: all that do so then (bits). */
        int merge(int frame, int other) {
            int pages = 0;
            for (int page = 0; page < PAGES; page++) {
                if (table.to[page] == other) {
                    table.to[page] = frame;
                }
                if (table.to[page] == frame) {
                    pages |= 1 << page;
                }
            }
            copies |= pages;
            return pages;
        }
    }

    /** ACTS, and the PLACE of the one that comes next. */
    private static final class Program {
        final int[] act = new int[MOST_ACTS];
        final int[] a = new int[MOST_ACTS];
        final int[] b = new int[MOST_ACTS];
        int size;
        int place;

        void copyFrom(Program other) {
            System.arraycopy(other.act, 0, act, 0, MOST_ACTS);
            System.arraycopy(other.a, 0, a, 0, MOST_ACTS);
            System.arraycopy(other.b, 0, b, 0, MOST_ACTS);
            size = other.size;
            place = other.place;
        }

        void add(int newAct, int newA, int newB) {
            act[size] = newAct;
            a[size] = newA;
            b[size] = newB;
            size++;
        }

        /** The PLACE at hand, whose ACT is to be done; PLACE is the next one then. */
        int advance() {
            int at = place;
            place = at + 1 < size ? at + 1 : 0;
            return at;
        }

        /** Nothing if there is no such PLACE, or it is NONE. */
        void goTo(int newPlace) {
            if (newPlace >= 0 && newPlace < size) {
                place = newPlace;
            }
        }
    }

    /** What both guests have: a PROGRAM, VECTORS, a CLOCK. */
    private static final class Guest {
        final Program program = new Program();
        final int[] since = new int[VECTORS];
        int waiting;
        int serving;
        boolean opened;
        int scale = 16;
        int offset;

        void copyFrom(Guest other) {
            program.copyFrom(other.program);
            System.arraycopy(other.since, 0, since, 0, VECTORS);
            waiting = other.waiting;
            serving = other.serving;
            opened = other.opened;
            scale = other.scale;
            offset = other.offset;
        }

        boolean awaits(int vector) {
            return hasBit(waiting, vector);
        }

        /** A VECTOR that is PENDING already has been so since it came to be. */
        void await(int vector, int time) {
            if (!awaits(vector)) {
                waiting |= 1 << vector;
                since[vector] = time;
            }
        }

        /** The VECTOR that can be TAKEN now. NONE: none can. */
        int ready() {
            if (!opened || waiting == 0) {
                return NONE;
            }
            int greatest = greatestOf(waiting);
            return greatest > greatestOf(serving) ? greatest : NONE;
        }

        /** TAKEN; the answer: for how much TIME it was PENDING. */
        int take(int vector, int time) {
            waiting &= ~(1 << vector);
            serving |= 1 << vector;
            return time - since[vector];
        }

        /** ENDED: the VECTOR. NONE: none is IN SERVICE. */
        int endService() {
            int greatest = greatestOf(serving);
            if (greatest != NONE) {
                serving &= ~(1 << greatest);
            }
            return greatest;
        }

        int clockUpon(int lowerClock) {
            return Math.floorDiv(lowerClock * scale, 16) + offset;
        }
    }

    /** All that is put by with an inner guest. */
    private static final class Inner {
        final Guest guest = new Guest();
        final Table toInner = new Table();
        final Table toOuter = new Table();
        int trapPlace = NONE;
        int trappedPage = NONE;
        int trappedPlace = NONE;

        void copyFrom(Inner other) {
            guest.copyFrom(other.guest);
            toInner.copyFrom(other.toInner);
            toOuter.copyFrom(other.toOuter);
            trapPlace = other.trapPlace;
            trappedPage = other.trappedPage;
            trappedPlace = other.trappedPlace;
        }

        /** The ACT at a PLACE TRAPPED, and that is nobody's but its own. */
        void trapAt(int place) {
            trappedPlace = place;
            guest.program.goTo(trapPlace);
        }

        /** ACTS 6, 8 and 9, which concern nobody else; other ACTS: nothing. */
        void actAlone(int act, int a, int b) {
            if (act == 6) {
                toInner.put(a, b, ALL_RIGHTS);
            } else if (act == 8 && trappedPage != NONE) {
                toInner.put(trappedPage, a, ALL_RIGHTS);
            } else if (act == 9) {
                guest.program.goTo(trappedPlace);
            }
        }
    }

    /** TIMERS in the order told. */
    private static final class Timers {
        final int[] level = new int[MOST_TIMERS];
        final int[] deadline = new int[MOST_TIMERS];
        final int[] vector = new int[MOST_TIMERS];
        int size;

        void copyFrom(Timers other) {
            System.arraycopy(other.level, 0, level, 0, MOST_TIMERS);
            System.arraycopy(other.deadline, 0, deadline, 0, MOST_TIMERS);
            System.arraycopy(other.vector, 0, vector, 0, MOST_TIMERS);
            size = other.size;
        }

        void add(int newLevel, int newDeadline, int newVector) {
            level[size] = newLevel;
            deadline[size] = newDeadline;
            vector[size] = newVector;
            size++;
        }

        void removeAt(int i) {
            int behind = size - 1 - i;
            System.arraycopy(level, i + 1, level, i, behind);
            System.arraycopy(deadline, i + 1, deadline, i, behind);
            System.arraycopy(vector, i + 1, vector, i, behind);
            size--;
        }

        /** Whether of two that are due at one TIME the i-th is ahead of the j-th. */
        boolean isAhead(int i, int j) {
            if (level[i] != level[j]) {
                return level[i] < level[j];
            }
            if (deadline[i] != deadline[j]) {
                return deadline[i] < deadline[j];
            }
            return i < j;
        }
    }

    /** What is written down and counted: EXITS, what was HEARD, SEEN, SPENT and TAKEN. */
    private static final class Log {
        final int[] who = new int[MOST_WRITTEN];
        final int[] reason = new int[MOST_WRITTEN];
        final int[] detail = new int[MOST_WRITTEN];
        final int[] time = new int[MOST_WRITTEN];
        final int[] exitsOf = new int[2];
        int dealtReason = NONE;
        int dealtDetail = NONE;
        final int[] heardValue = new int[MOST_WRITTEN];
        int allHeard;
        int ownTraps;
        final int[] seenBy = new int[3 * EVENTS];
        final int[] spentBy = new int[1 + INNER_GUESTS];
        final int[] takes = new int[2];
        final int[] latestTake = {NONE, NONE};
        final int[] longestWait = {NONE, NONE};

        void copyFrom(Log other) {
            System.arraycopy(other.who, 0, who, 0, MOST_WRITTEN);
            System.arraycopy(other.reason, 0, reason, 0, MOST_WRITTEN);
            System.arraycopy(other.detail, 0, detail, 0, MOST_WRITTEN);
            System.arraycopy(other.time, 0, time, 0, MOST_WRITTEN);
            System.arraycopy(other.exitsOf, 0, exitsOf, 0, exitsOf.length);
            dealtReason = other.dealtReason;
            dealtDetail = other.dealtDetail;
            System.arraycopy(other.heardValue, 0, heardValue, 0, MOST_WRITTEN);
            allHeard = other.allHeard;
            ownTraps = other.ownTraps;
            System.arraycopy(other.seenBy, 0, seenBy, 0, seenBy.length);
            System.arraycopy(other.spentBy, 0, spentBy, 0, spentBy.length);
            System.arraycopy(other.takes, 0, takes, 0, takes.length);
            System.arraycopy(other.latestTake, 0, latestTake, 0, latestTake.length);
            System.arraycopy(other.longestWait, 0, longestWait, 0, longestWait.length);
        }

        int allExits() {
            return exitsOf[HOST] + exitsOf[OUTER];
        }

        int exitsKept() {
            return Math.min(allExits(), MOST_WRITTEN);
        }

        void writeExit(int seer, int newReason, int newDetail, int newTime) {
            int slot = (exitsOf[HOST] + exitsOf[OUTER]) % MOST_WRITTEN;
            who[slot] = seer;
            reason[slot] = newReason;
            detail[slot] = newDetail;
            time[slot] = newTime;
            exitsOf[seer]++;
            if (seer == OUTER) {
                dealtReason = newReason;
                dealtDetail = newDetail;
            }
        }

        int exitAt(int i, int what) {
            if (!within(i, 0, exitsKept() - 1)) {
                return NO_SUCH;
            }
            int slot = (allExits() - exitsKept() + i) % MOST_WRITTEN;
            switch (what) {
                case 0: return who[slot];
                case 1: return reason[slot];
                case 2: return detail[slot];
                case 3: return time[slot];
                default: return NO_SUCH;
            }
        }

        int exitsBy(int wantedReason) {
            int count = 0;
            for (int slot = 0; slot < exitsKept(); slot++) {
                if (reason[slot] == wantedReason) {
                    count++;
                }
            }
            return count;
        }

        void hear(int value) {
            heardValue[allHeard % MOST_WRITTEN] = value;
            allHeard++;
        }

        int heardKept() {
            return Math.min(allHeard, MOST_WRITTEN);
        }

        int heardAt(int i) {
            if (!within(i, 0, heardKept() - 1)) {
                return NONE;
            }
            return heardValue[(allHeard - heardKept() + i) % MOST_WRITTEN];
        }

        void noteTake(int guest, int vector, int waited) {
            takes[guest - 1]++;
            latestTake[guest - 1] = vector;
            longestWait[guest - 1] = Math.max(longestWait[guest - 1], waited);
        }
    }

    /** All as it is at one time: the host, the outer guest, the inner guests. */
    private static final class Machine {
        final Memory memory = new Memory();
        final Table folds = new Table();
        int room = 6;
        final Guest outer = new Guest();
        final Inner[] inners = new Inner[INNER_GUESTS];
        int handed;
        int level = OUTER;
        int time;
        final int[] wants = new int[2];
        final int[] handlers = new int[REASONS];
        int slice;
        int left;
        /** The INNER PAGE of the latest EXIT by REASON 1. */
        int missedPage = NONE;
        final Timers timers = new Timers();
        final Log log = new Log();

        Machine() {
            for (int i = 0; i < INNER_GUESTS; i++) {
                inners[i] = new Inner();
            }
            Arrays.fill(handlers, NONE);
        }

        void copyFrom(Machine other) {
            memory.copyFrom(other.memory);
            folds.copyFrom(other.folds);
            room = other.room;
            outer.copyFrom(other.outer);
            for (int i = 0; i < INNER_GUESTS; i++) {
                inners[i].copyFrom(other.inners[i]);
            }
            handed = other.handed;
            level = other.level;
            time = other.time;
            System.arraycopy(other.wants, 0, wants, 0, wants.length);
            System.arraycopy(other.handlers, 0, handlers, 0, REASONS);
            slice = other.slice;
            left = other.left;
            missedPage = other.missedPage;
            timers.copyFrom(other.timers);
            log.copyFrom(other.log);
        }

        Inner inHand() {
            return inners[handed];
        }

        Guest guest(int which) {
            return which == OUTER ? outer : inners[handed].guest;
        }

        /** TABLES 0, 1, 2, and FOLDED (3). */
        Table table(int which) {
            switch (which) {
                case 0: return inners[handed].toInner;
                case 1: return inners[handed].toOuter;
                case 2: return memory.table;
                default: return folds;
            }
        }

        int figure(int what) {
            switch (what) {
                case 0: return level;
                case 1: return time;
                case 2: return room;
                case 3: return folds.size();
                case 4: return memory.framesFree();
                case 5: return log.exitsOf[HOST];
                case 6: return log.exitsOf[OUTER];
                case 7: return log.ownTraps;
                case 8: return memory.swaps;
                case 9: return log.takes[0];
                case 10: return log.takes[1];
                case 11: return outer.program.place;
                case 12: return inners[handed].guest.program.place;
                case 13: return slice;
                case 14: return left;
                case 15: return log.dealtReason;
                case 16: return log.dealtDetail;
                case LAST_FIGURE: return handed;
                default: return NONE;
            }
        }

        /** An ENTRY is told by whom it belongs to; TABLE 2 is the host's. */
        boolean mayTell(int table) {
            return table == 0 && level == INNER || table == 1 && level == OUTER || table == 2;
        }

        void tellEntry(int table, int page, int to, int rights) {
            if (table == 0) {
                inHand().toInner.put(page, to, rights);
            } else if (table == 1) {
                tellInner(page, to, rights);
            } else {
                memory.tell(page, to, rights);
                unfold(1 << page);
            }
        }

        void dropEntry(int table, int page) {
            if (table == 0) {
                inHand().toInner.drop(page);
            } else if (table == 1) {
                inHand().toOuter.drop(page);
                folds.drop(page);
            } else {
                memory.untell(page);
                unfold(1 << page);
            }
        }

        private void tellInner(int page, int to, int rights) {
            inHand().toOuter.put(page, to, rights);
            folds.drop(page);
        }

        /** FOLDED has none of INNER PAGES that TABLE 1 leads to these OUTER PAGES (bits). */
        private void unfold(int outerPages) {
            Table toOuter = inHand().toOuter;
            for (int page = 0; page < PAGES; page++) {
                if (toOuter.to[page] != NONE && hasBit(outerPages, toOuter.to[page])) {
                    folds.drop(page);
                }
            }
        }

        void makeRoom(int newRoom) {
            room = newRoom;
            for (int more = folds.size() - room; more > 0; more--) {
                folds.dropEldest();
            }
        }

        /** The RIGHTS that TABLES 1 and 2 both give of an INNER PAGE. */
        private int rightsOfBoth(int page) {
            Table toOuter = inHand().toOuter;
            if (!toOuter.has(page)) {
                return 0;
            }
            return toOuter.rights[page] & memory.rightsGiven(toOuter.to[page]);
        }

        int lazyPages() {
            int pages = 0;
            for (int page = 0; page < PAGES; page++) {
                if (!folds.has(page) && rightsOfBoth(page) != 0) {
                    pages |= 1 << page;
                }
            }
            return pages;
        }

        /** FOLDED AHEAD: how many were. */
        int foldLazyPages() {
            int lazy = lazyPages();
            int roomLeft = room - folds.size();
            int count = 0;
            for (int page = 0; page < PAGES && count < roomLeft; page++) {
                if (hasBit(lazy, page)) {
                    fold(page);
                    count++;
                }
            }
            return count;
        }

        /** FOLDED has the ENTRY of an INNER PAGE that TABLES 1 and 2 lead to a FRAME. */
        private void fold(int page) {
            Table toOuter = inHand().toOuter;
            int outerPage = toOuter.to[page];
            int rights = toOuter.rights[page] & memory.rightsGiven(outerPage);
            folds.put(page, memory.table.to[outerPage], rights);
        }

        /** JOINED: how many FRAMES came to be FREE. */
        int joinFrames() {
            int count = 0;
            for (int frame = 0; frame < FRAMES; frame++) {
                for (int other = frame + 1; other < FRAMES; other++) {
                    if (memory.areLike(frame, other)) {
                        unfold(memory.merge(frame, other));
                        count++;
                    }
                }
            }
            return count;
        }

        private void hostSees(int reason, int detail) {
            log.writeExit(HOST, reason, detail, time);
        }

        private void dealToOuter(int reason, int detail) {
            log.writeExit(OUTER, reason, detail, time);
            level = OUTER;
            outer.program.goTo(handlers[reason]);
        }

        /** The VALUE, TRAPS, DEALT or REFUSED. */
        int touchByInner(int page, int way, int value) {
            Inner inner = inHand();
            if (!inner.toInner.gives(page, way)) {
                if (eventOfInner(0) == NOBODY_ELSE) {
                    inner.trappedPage = page;
                    log.ownTraps++;
                }
                return TRAPS;
            }
            int innerPage = inner.toInner.to[page];
            if (!folds.gives(innerPage, way)) {
                int hindrance = foldOnTouch(innerPage, way);
                if (hindrance != 0) {
                    return hindrance;
                }
            }
            int found = memory.touchFrame(folds.to[innerPage], way, value);
            if (way != WRITE) {
                log.hear(found);
            }
            return found;
        }

        /** FOLDED has the ENTRY then: 0; or DEALT, REFUSED. */
        private int foldOnTouch(int page, int way) {
            Table toOuter = inHand().toOuter;
            int detail = 4 * page + way;
            if (!toOuter.gives(page, way)) {
                missedPage = page;
                dealToOuter(NO_INNER_ENTRY, detail);
                return DEALT;
            }
            hostSees(NO_FOLDED_ENTRY, detail);
            int outerPage = toOuter.to[page];
            if (way == WRITE && memory.partsOnWrite(outerPage)) {
                memory.part(outerPage);
                unfold(1 << outerPage);
            }
            if (!memory.table.has(outerPage)) {
                unfold(memory.give(outerPage));
            }
            if (!memory.table.gives(outerPage, way)) {
                return REFUSED;
            }
            folds.drop(page);
            if (folds.size() >= room) {
                folds.dropEldest();
            }
            fold(page);
            return 0;
        }

        /** The VALUE, or REFUSED. */
        int touchByOuter(int page, int way, int value) {
            int detail = 64 + 4 * page + way;
            if (!memory.table.has(page)) {
                hostSees(NO_FOLDED_ENTRY, detail);
            } else if (way == WRITE && memory.partsOnWrite(page)) {
                hostSees(COPY_WRITTEN, detail);
                memory.part(page);
                unfold(1 << page);
            } else if (!memory.table.gives(page, way)) {
                hostSees(NO_RIGHT, detail);
                return REFUSED;
            }
            if (!memory.table.has(page)) {
                unfold(memory.give(page));
            }
            return memory.touchFrame(memory.table.to[page], way, value);
        }

        /** Who would see an EVENT of the inner guest. */
        int seerOfInner(int event) {
            if (hasBit(wants[OUTER], event)) {
                return OUTER;
            }
            return hasBit(wants[HOST], event) ? HOST : NOBODY_ELSE;
        }

        int eventOfInner(int event) {
            int seer = seerOfInner(event);
            log.seenBy[3 * event + seer]++;
            if (seer == OUTER) {
                dealToOuter(WANTED_OF_INNER, event);
            } else if (seer == HOST) {
                hostSees(WANTED_OF_INNER, event);
            }
            return seer;
        }

        int eventOfOuter(int event) {
            int seer = hasBit(wants[HOST], event) ? HOST : NOBODY_ELSE;
            log.seenBy[3 * event + seer]++;
            if (seer == HOST) {
                hostSees(WANTED_OF_OUTER, event);
            }
            return seer;
        }

        void enterInner() {
            level = INNER;
            left = slice;
        }

        void switchTo(int guest) {
            handed = guest;
            folds.dropAll();
            missedPage = NONE;
        }

        void dealOut() {
            int vector = outer.ready();
            if (vector != NONE) {
                if (level == INNER) {
                    dealToOuter(INTERRUPT, vector);
                }
                log.noteTake(OUTER, vector, outer.take(vector, time));
            }
            if (level == INNER) {
                dealOutToInner();
            }
        }

        private void dealOutToInner() {
            Guest guest = inHand().guest;
            int vector = guest.ready();
            if (vector != NONE) {
                log.noteTake(INNER, vector, guest.take(vector, time));
            }
        }

        int clockAt(int which, int hostTime) {
            if (which == HOST) {
                return hostTime;
            }
            int outerClock = outer.clockUpon(hostTime);
            return which == OUTER ? outerClock : inHand().guest.clockUpon(outerClock);
        }

        /** When the i-th TIMER is DUE; CLOCKS never go backward, so halving finds it. NONE: never. */
        int dueTime(int i) {
            int clock = timers.level[i];
            int deadline = timers.deadline[i];
            int least = time + 1;
            int most = LAST_TIME;
            if (least > most || clockAt(clock, most) < deadline) {
                return NONE;
            }
            for (int halvings = 0; halvings < 32 && least < most; halvings++) {
                int middle = (least + most) / 2;
                if (clockAt(clock, middle) >= deadline) {
                    most = middle;
                } else {
                    least = middle + 1;
                }
            }
            return least;
        }

        int firstDue() {
            int best = NONE;
            int bestTime = NONE;
            for (int i = 0; i < timers.size; i++) {
                int due = dueTime(i);
                if (due == NONE) {
                    continue;
                }
                if (best == NONE || due < bestTime || due == bestTime && timers.isAhead(i, best)) {
                    best = i;
                    bestTime = due;
                }
            }
            return best;
        }

        /** TIME goes on by 1: how many TIMERS were due. */
        int timeGoesOn() {
            time++;
            log.spentBy[level == OUTER ? 0 : 1 + handed]++;
            int due = 0;
            for (int i = 0; i < MOST_TIMERS; i++) {
                int next = nextDueNow();
                if (next == NONE) {
                    break;
                }
                goOff(next);
                due++;
            }
            if (level == INNER && slice != 0) {
                left--;
                if (left <= 0) {
                    dealToOuter(SLICE_OVER, slice);
                }
            }
            return due;
        }

        private int nextDueNow() {
            int best = NONE;
            for (int i = 0; i < timers.size; i++) {
                boolean isDue = clockAt(timers.level[i], time) >= timers.deadline[i];
                if (isDue && (best == NONE || timers.isAhead(i, best))) {
                    best = i;
                }
            }
            return best;
        }

        private void goOff(int i) {
            int of = timers.level[i];
            int vector = timers.vector[i];
            timers.removeAt(i);
            if (of == HOST) {
                hostSees(HOST_TIMER, vector);
            } else {
                guest(of).await(vector, time);
            }
        }

        /** GONE, once. */
        void goOn() {
            timeGoesOn();
            dealOut();
            if (level == OUTER) {
                actOfOuter();
            } else {
                actOfInner();
            }
            dealOut();
        }

        private void actOfOuter() {
            Program program = outer.program;
            if (program.size == 0) {
                return;
            }
            int at = program.advance();
            int act = program.act[at];
            int a = program.a[at];
            int b = program.b[at];
            switch (act) {
                case READ: case WRITE: case RUN: touchByOuter(a, act, b); break;
                case 3: eventOfOuter(a); break;
                case 4: outer.opened = true; break;
                case 5: outer.opened = false; break;
                case 6: enterInner(); break;
                case 7: tellInner(a, b, ALL_RIGHTS); break;
                case 8: inHand().guest.await(a, time); break;
                case 9: tellMissed(a); break;
                case 10: outer.endService(); break;
                case 11: switchUnlessInHand(a); break;
                default: break;
            }
        }

        private void tellMissed(int to) {
            if (missedPage != NONE) {
                tellInner(missedPage, to, ALL_RIGHTS);
            }
        }

        private void switchUnlessInHand(int guest) {
            if (guest != handed) {
                switchTo(guest);
            }
        }

        private void actOfInner() {
            Inner inner = inHand();
            Program program = inner.guest.program;
            if (program.size == 0) {
                return;
            }
            int at = program.advance();
            int act = program.act[at];
            int a = program.a[at];
            int b = program.b[at];
            switch (act) {
                case READ: case WRITE: case RUN: lead(inner, at, touchByInner(a, act, b)); break;
                case 3: eventOfInner(a); break;
                case 4: inner.guest.opened = true; break;
                case 5: inner.guest.opened = false; break;
                case 7: inner.guest.endService(); break;
                default: inner.actAlone(act, a, b); break;
            }
        }

        /** What an ACT that TOUCHED was answered may lead the inner guest to another PLACE. */
        private void lead(Inner inner, int place, int answer) {
            if (answer == DEALT) {
                inner.guest.program.goTo(place);
            } else if (answer == TRAPS && seerOfInner(0) == NOBODY_ELSE) {
                inner.trapAt(place);
            }
        }

        int walkTables(int page, int way) {
            Table toInner = inHand().toInner;
            if (!toInner.gives(page, way)) {
                return -2;
            }
            Table toOuter = inHand().toOuter;
            int innerPage = toInner.to[page];
            if (!toOuter.gives(innerPage, way)) {
                return -3;
            }
            int outerPage = toOuter.to[innerPage];
            return hasBit(memory.rightsGiven(outerPage), way) ? memory.table.to[outerPage] : -4;
        }

        int rightsOfVirtual(int page) {
            Table toInner = inHand().toInner;
            return toInner.has(page) ? toInner.rights[page] & rightsOfBoth(toInner.to[page]) : 0;
        }

        /** The FRAME to which TABLES 1 and 2 lead an INNER PAGE, whatever RIGHTS. NONE: to none. */
        private int frameOfInner(int page) {
            Table toOuter = inHand().toOuter;
            return toOuter.has(page) ? memory.table.to[toOuter.to[page]] : NONE;
        }

        int virtualPagesAt(int frame) {
            Table toInner = inHand().toInner;
            int pages = 0;
            for (int page = 0; page < PAGES; page++) {
                if (toInner.has(page) && frameOfInner(toInner.to[page]) == frame) {
                    pages |= 1 << page;
                }
            }
            return pages;
        }

        /** The VALUE that an INNER PAGE has at first, if all goes PLAINLY. */
        int plainValue(int page) {
            int frame = frameOfInner(page);
            if (frame != NONE) {
                return memory.value[frame];
            }
            Table toOuter = inHand().toOuter;
            return toOuter.has(page) ? Math.max(memory.stored[toOuter.to[page]], 0) : 0;
        }
    }

    /** The inner guest PLAINLY, as on one level. */
    private static final class Plain {
        final Inner inner = new Inner();
        final int[] value = new int[PAGES];
        int traps;
        int latestHeard;

        void startFrom(Machine machine) {
            inner.copyFrom(machine.inHand());
            for (int page = 0; page < PAGES; page++) {
                value[page] = machine.plainValue(page);
            }
            traps = 0;
            latestHeard = NONE;
        }

        void goOn() {
            Program program = inner.guest.program;
            if (program.size == 0) {
                return;
            }
            int at = program.advance();
            int act = program.act[at];
            if (isWay(act)) {
                touchFrom(at, program.a[at], act, program.b[at]);
            } else {
                inner.actAlone(act, program.a[at], program.b[at]);
            }
        }

        private void touchFrom(int place, int page, int way, int written) {
            if (!inner.toInner.gives(page, way)) {
                traps++;
                inner.trappedPage = page;
                inner.trapAt(place);
                return;
            }
            int innerPage = inner.toInner.to[page];
            if (way == WRITE) {
                value[innerPage] = written;
            } else {
                latestHeard = value[innerPage];
            }
        }
    }

    /** The latest STEPS: all as it was ahead of each. Rows are made once and used again. */
    private static final class Past {
        final Machine[] rows = new Machine[MOST_STEPS];
        /** Where the eldest one is; the others follow it round. */
        int start;
        int size;

        void push(Machine machine) {
            int slot = (start + size) % MOST_STEPS;
            if (rows[slot] == null) {
                rows[slot] = new Machine();
            }
            rows[slot].copyFrom(machine);
            if (size < MOST_STEPS) {
                size++;
            } else {
                start = (start + 1) % MOST_STEPS;
            }
        }

        void popInto(Machine machine) {
            if (size == 0) {
                return;
            }
            size--;
            Machine row = rows[(start + size) % MOST_STEPS];
            if (row != null) {
                machine.copyFrom(row);
            }
        }

        void copyFrom(Past other) {
            start = 0;
            size = 0;
            for (int i = 0; i < other.size; i++) {
                Machine row = other.rows[(other.start + i) % MOST_STEPS];
                if (row != null) {
                    push(row);
                }
            }
        }
    }
}
