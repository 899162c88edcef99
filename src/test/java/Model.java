import java.util.ArrayDeque;
import java.util.ArrayList;
import java.util.Collections;
import java.util.Deque;
import java.util.LinkedHashMap;
import java.util.List;
import java.util.Map;
import java.util.TreeMap;
import java.util.TreeSet;

/**
 * The document a second time, sentence by sentence, with lists and maps and no thought of cost:
 * what GuestLevels answers in random runs is compared with what this answers.
 */
final class Model {
    static final int NONE = -1;

    /** ENTRIES by PAGE {to, rights}, in the order in which they came. */
    static final class Entries extends LinkedHashMap<Integer, int[]> {
        void tell(int page, int to, int rights) {
            remove(page);
            put(page, new int[] {to, rights});
        }

        boolean has(int page, int way) {
            return containsKey(page) && (get(page)[1] & 1 << way) != 0;
        }

        Entries copy() {
            Entries copy = new Entries();
            forEach((page, entry) -> copy.put(page, entry.clone()));
            return copy;
        }

        int eldest() {
            return keySet().iterator().next();
        }

        int nth(int i) {
            return i < 0 || i >= size() ? NONE : new ArrayList<>(keySet()).get(i);
        }
    }

    static class Guest {
        List<int[]> acts = new ArrayList<>();
        int place = 0;
        TreeMap<Integer, Integer> pending = new TreeMap<>();
        TreeSet<Integer> service = new TreeSet<>();
        boolean open = false;
        int scale = 16;
        int offset = 0;
        Entries table0 = new Entries();
        Entries table1 = new Entries();
        int trapPlace = NONE;
        int trappedPage = NONE;
        int trappedPlace = NONE;

        Guest copy() {
            Guest copy = new Guest();
            copy.acts = new ArrayList<>(acts);
            copy.place = place;
            copy.pending = new TreeMap<>(pending);
            copy.service = new TreeSet<>(service);
            copy.open = open;
            copy.scale = scale;
            copy.offset = offset;
            copy.table0 = table0.copy();
            copy.table1 = table1.copy();
            copy.trapPlace = trapPlace;
            copy.trappedPage = trappedPage;
            copy.trappedPlace = trappedPlace;
            return copy;
        }

        int takeable() {
            if (!open || pending.isEmpty()) return NONE;
            int greatest = pending.lastKey();
            for (int s : service) if (s >= greatest) return NONE;
            return greatest;
        }
    }

    static final class State {
        Entries table2 = new Entries();
        TreeSet<Integer> copied = new TreeSet<>();
        Entries folded = new Entries();
        int[] values = {0, 11, 22, 33, 44, 55, 66, 77, 88, 99};
        TreeMap<Integer, Integer> stored = new TreeMap<>();
        TreeSet<Integer> changed = new TreeSet<>();
        int room = 6;
        int level = 1;
        int time = 0;
        int wantHost = 0;
        int wantOuter = 0;
        Guest outer = new Guest();
        Guest[] inners = {new Guest(), new Guest(), new Guest()};
        int inHand = 0;
        List<int[]> timers = new ArrayList<>();
        List<int[]> exits = new ArrayList<>();
        List<Integer> heard = new ArrayList<>();
        TreeMap<Integer, Integer> handlers = new TreeMap<>();
        int slice = 0;
        int left = 0;
        int reason1Page = NONE;
        int ownTraps = 0;
        int swapped = 0;
        List<List<Integer>> taken = List.of(new ArrayList<>(), new ArrayList<>());
        int[] longest = {NONE, NONE};
        int[] spent = new int[4];
        int[][] seen = new int[8][3];

        State copy() {
            State c = new State();
            c.table2 = table2.copy();
            c.copied = new TreeSet<>(copied);
            c.folded = folded.copy();
            c.values = values.clone();
            c.stored = new TreeMap<>(stored);
            c.changed = new TreeSet<>(changed);
            c.room = room;
            c.level = level;
            c.time = time;
            c.wantHost = wantHost;
            c.wantOuter = wantOuter;
            c.outer = outer.copy();
            for (int i = 0; i < 3; i++) c.inners[i] = inners[i].copy();
            c.inHand = inHand;
            c.timers = new ArrayList<>(timers);
            c.exits = new ArrayList<>(exits);
            c.heard = new ArrayList<>(heard);
            c.handlers = new TreeMap<>(handlers);
            c.slice = slice;
            c.left = left;
            c.reason1Page = reason1Page;
            c.ownTraps = ownTraps;
            c.swapped = swapped;
            c.taken = List.of(new ArrayList<>(taken.get(0)), new ArrayList<>(taken.get(1)));
            c.longest = longest.clone();
            c.spent = spent.clone();
            for (int i = 0; i < 8; i++) c.seen[i] = seen[i].clone();
            return c;
        }

        Guest inner() {
            return inners[inHand];
        }

        Guest guest(int g) {
            return g == 1 ? outer : inner();
        }

        // ---- EXITS

        void exit(int who, int reason, int detail) {
            exits.add(new int[] {who, reason, detail, time});
            if (who == 1) {
                level = 1;
                if (handlers.containsKey(reason) && handlers.get(reason) < outer.acts.size()) {
                    outer.place = handlers.get(reason);
                }
            }
        }

        int exitsOf(int who) {
            return (int) exits.stream().filter(e -> e[0] == who).count();
        }

        int[] latestDealt() {
            for (int i = exits.size() - 1; i >= 0; i--) if (exits.get(i)[0] == 1) return exits.get(i);
            return null;
        }

        // ---- memory

        TreeSet<Integer> free() {
            TreeSet<Integer> free = new TreeSet<>();
            for (int f = 0; f < 10; f++) free.add(f);
            for (int[] e : table2.values()) free.remove(e[0]);
            return free;
        }

        void unfoldOuter(int outerPage) {
            folded.keySet().removeIf(
                p -> inner().table1.containsKey(p) && inner().table1.get(p)[0] == outerPage);
        }

        void give(int page) {
            while (free().isEmpty()) {
                int eldest = table2.eldest();
                stored.put(eldest, values[table2.get(eldest)[0]]);
                table2.remove(eldest);
                copied.remove(eldest);
                unfoldOuter(eldest);
                swapped++;
            }
            int frame = free().first();
            table2.tell(page, frame, 7);
            copied.remove(page);
            values[frame] = stored.getOrDefault(page, 0);
            stored.remove(page);
            changed.add(frame);
            unfoldOuter(page);
        }

        void part(int page) {
            int frame = table2.get(page)[0];
            long leading = table2.values().stream().filter(e -> e[0] == frame).count();
            if (leading == 1) {
                copied.remove(page);
                unfoldOuter(page);
                return;
            }
            table2.remove(page);
            copied.remove(page);
            stored.put(page, values[frame]);
            give(page);
        }

        int giving2(int page) {
            if (!table2.containsKey(page)) return 0;
            return table2.get(page)[1] & (copied.contains(page) ? 5 : 7);
        }

        int joinOnce() {
            for (int f = 0; f < 10; f++) {
                for (int g = 0; g < 10; g++) {
                    if (f == g || values[f] != values[g]) continue;
                    if (free().contains(f) || free().contains(g)) continue;
                    for (int[] e : table2.values()) if (e[0] == g) e[0] = f;
                    for (int p : table2.keySet()) {
                        if (table2.get(p)[0] == f) {
                            copied.add(p);
                            unfoldOuter(p);
                        }
                    }
                    return 1;
                }
            }
            return 0;
        }

        // ---- TOUCHED

        int done(int frame, int way, int value) {
            if (way == 1) {
                values[frame] = value;
                changed.add(frame);
            }
            return values[frame];
        }

        int touch(int page, int way, int value) {
            return level == 2 ? touch2(page, way, value) : touch1(page, way, value);
        }

        int touch2(int page, int way, int value) {
            Guest in = inner();
            if (!in.table0.has(page, way)) {
                if (event(0) == 2) {
                    in.trappedPage = page;
                    ownTraps++;
                }
                return -2;
            }
            int p1 = in.table0.get(page)[0];
            if (!folded.has(p1, way)) {
                if (!in.table1.has(p1, way)) {
                    exit(1, 1, 4 * p1 + way);
                    reason1Page = p1;
                    return -3;
                }
                exit(0, 2, 4 * p1 + way);
                int p2 = in.table1.get(p1)[0];
                if (!table2.containsKey(p2)) give(p2);
                if (way == 1 && copied.contains(p2) && table2.has(p2, 1)) part(p2);
                if (!table2.has(p2, way)) return -4;
                folded.remove(p1);
                if (folded.size() == room) folded.remove(folded.eldest());
                folded.tell(p1, table2.get(p2)[0], in.table1.get(p1)[1] & giving2(p2));
            }
            int v = done(folded.get(p1)[0], way, value);
            if (way != 1) heard.add(v);
            return v;
        }

        int touch1(int page, int way, int value) {
            int detail = 64 + 4 * page + way;
            if (!table2.containsKey(page)) {
                exit(0, 2, detail);
                give(page);
            } else if (way == 1 && copied.contains(page) && table2.has(page, 1)) {
                exit(0, 9, detail);
                part(page);
            } else if (!table2.has(page, way)) {
                exit(0, 3, detail);
                return -4;
            }
            return done(table2.get(page)[0], way, value);
        }

        int whose(int k) {
            if ((wantOuter >> k & 1) == 1) return 1;
            return (wantHost >> k & 1) == 1 ? 0 : 2;
        }

        int event(int k) {
            int by;
            if (level == 2) {
                by = whose(k);
                if (by != 2) exit(by, 4, k);
            } else {
                by = (wantHost >> k & 1) == 1 ? 0 : 2;
                if (by == 0) exit(0, 5, k);
            }
            seen[k][by]++;
            return by;
        }

        // ---- VECTORS

        void dealOut() {
            int v = outer.takeable();
            if (v != NONE) {
                if (level == 2) exit(1, 6, v);
                take(1, v);
            }
            if (level == 2) {
                v = inner().takeable();
                if (v != NONE) take(2, v);
            }
        }

        void take(int g, int v) {
            int since = guest(g).pending.remove(v);
            guest(g).service.add(v);
            taken.get(g - 1).add(v);
            longest[g - 1] = Math.max(longest[g - 1], time - since);
        }

        int end(Guest g) {
            return g.service.isEmpty() ? NONE : g.service.pollLast();
        }

        void switchTo(int g) {
            inHand = g;
            folded.clear();
            reason1Page = NONE;
        }

        // ---- TIME

        int clock(int lv, int t) {
            if (lv == 0) return t;
            int c = (int) Math.floor(t * (double) outer.scale / 16) + outer.offset;
            if (lv == 1) return c;
            return (int) Math.floor(c * (double) inner().scale / 16) + inner().offset;
        }

        int tick() {
            time++;
            spent[level == 1 ? 0 : inHand + 1]++;
            List<int[]> due = new ArrayList<>();
            for (int[] t : timers) if (clock(t[0], time) >= t[1]) due.add(t);
            timers.removeAll(due);
            due.sort((x, y) -> x[0] != y[0] ? x[0] - y[0] : x[1] - y[1]);
            for (int[] t : due) {
                if (t[0] == 0) exit(0, 7, t[2]);
                else guest(t[0]).pending.putIfAbsent(t[2], time);
            }
            if (level == 2 && slice != 0) {
                left--;
                if (left <= 0) exit(1, 8, slice);
            }
            return due.size();
        }

        int due(int i) {
            int[] t = timers.get(i);
            for (int at = time + 1; at <= 99999; at++) if (clock(t[0], at) >= t[1]) return at;
            return NONE;
        }

        // ---- GONE

        void go() {
            tick();
            dealOut();
            Guest g = guest(level);
            if (!g.acts.isEmpty()) {
                int at = g.place;
                g.place = (at + 1) % g.acts.size();
                int[] act = g.acts.get(at);
                if (level == 1) outerAct(act);
                else innerAct(g, at, act);
            }
            dealOut();
        }

        void outerAct(int[] act) {
            int a = act[1];
            if (act[0] <= 2) touch1(a, act[0], act[2]);
            if (act[0] == 3) event(a);
            if (act[0] == 4) outer.open = true;
            if (act[0] == 5) outer.open = false;
            if (act[0] == 6) {
                level = 2;
                left = slice;
            }
            if (act[0] == 7) tell1(a, act[2]);
            if (act[0] == 8) inner().pending.putIfAbsent(a, time);
            if (act[0] == 9 && reason1Page != NONE) tell1(reason1Page, a);
            if (act[0] == 10) end(outer);
            if (act[0] == 11 && a != inHand) switchTo(a);
        }

        void tell1(int page, int to) {
            inner().table1.tell(page, to, 7);
            folded.remove(page);
        }

        void innerAct(Guest g, int at, int[] act) {
            int a = act[1];
            if (act[0] <= 2) {
                int trapsBefore = ownTraps;
                int answer = touch2(a, act[0], act[2]);
                if (answer == -3) g.place = at;
                if (ownTraps > trapsBefore) trapAt(g, at);
            }
            if (act[0] == 3) event(a);
            if (act[0] == 4) g.open = true;
            if (act[0] == 5) g.open = false;
            if (act[0] == 7) end(g);
            alone(g, act);
        }

        static void trapAt(Guest g, int at) {
            g.trappedPlace = at;
            if (g.trapPlace != NONE && g.trapPlace < g.acts.size()) g.place = g.trapPlace;
        }

        static void alone(Guest g, int[] act) {
            if (act[0] == 6) g.table0.tell(act[1], act[2], 7);
            if (act[0] == 8 && g.trappedPage != NONE) g.table0.tell(g.trappedPage, act[1], 7);
            if (act[0] == 9 && g.trappedPlace != NONE && g.trappedPlace < g.acts.size()) {
                g.place = g.trappedPlace;
            }
        }

        TreeSet<Integer> lazy() {
            TreeSet<Integer> lazy = new TreeSet<>();
            for (int p : inner().table1.keySet()) {
                int[] e = inner().table1.get(p);
                if ((e[1] & giving2(e[0])) != 0 && !folded.containsKey(p)) lazy.add(p);
            }
            return lazy;
        }

        int is(int what) {
            int[] latest = latestDealt();
            int[] all = {level, time, room, folded.size(), free().size(), exitsOf(0), exitsOf(1),
                ownTraps, swapped, taken.get(0).size(), taken.get(1).size(), outer.place,
                inner().place, slice, left, latest == null ? NONE : latest[1],
                latest == null ? NONE : latest[2], inHand};
            return what < 0 || what > 17 ? NONE : all[what];
        }
    }

    State s = new State();
    Deque<State> past = new ArrayDeque<>();
    State image = new State();
    Deque<State> imagePast = new ArrayDeque<>();

    static int bits(Iterable<Integer> set) {
        int bits = 0;
        for (int k : set) bits |= 1 << k;
        return bits;
    }

    static boolean in(int x, int low, int high) {
        return low <= x && x <= high;
    }

    private void step() {
        past.addLast(s.copy());
        if (past.size() > 20) past.removeFirst();
    }

    private static int bool(boolean b) {
        return b ? 1 : 0;
    }

    private boolean canTell(int table) {
        return table == 0 ? s.level == 2 : table == 1 ? s.level == 1 : table == 2;
    }

    private Entries table(int table) {
        return List.of(s.inner().table0, s.inner().table1, s.table2, s.folded).get(table);
    }

    private void untell(int table, int page) {
        if (table == 1) s.folded.remove(page);
        if (table == 2) {
            s.unfoldOuter(page);
            s.stored.remove(page);
            s.copied.remove(page);
        }
    }

    private static final Map<Integer, int[]> OUTER_ACTS = Map.ofEntries(
        Map.entry(0, new int[] {15, 0}), Map.entry(1, new int[] {15, 9999}),
        Map.entry(2, new int[] {15, 0}), Map.entry(3, new int[] {7, 0}),
        Map.entry(4, new int[] {0, 0}), Map.entry(5, new int[] {0, 0}),
        Map.entry(6, new int[] {0, 0}), Map.entry(7, new int[] {15, 15}),
        Map.entry(8, new int[] {15, 0}), Map.entry(9, new int[] {15, 0}),
        Map.entry(10, new int[] {0, 0}), Map.entry(11, new int[] {2, 0}));
    private static final Map<Integer, int[]> INNER_ACTS = Map.of(
        0, new int[] {15, 0}, 1, new int[] {15, 9999}, 2, new int[] {15, 0},
        3, new int[] {7, 0}, 4, new int[] {0, 0}, 5, new int[] {0, 0},
        6, new int[] {15, 15}, 7, new int[] {0, 0}, 8, new int[] {15, 0}, 9, new int[] {0, 0});

    /** What a call that may be a STEP (or undo, image, back) answers. */
    int tell(String call, int a, int b, int c, int d) {
        switch (call) {
            case "undo":
                if (past.isEmpty()) return NONE;
                s = past.removeLast().copy();
                return past.size();
            case "image":
                image = s.copy();
                imagePast = new ArrayDeque<>(past);
                return s.time;
            case "back":
                s = image.copy();
                past = new ArrayDeque<>();
                for (State p : imagePast) past.addLast(p.copy());
                return s.time;
            default:
                State before = s.copy();
                int no = no(call);
                int answer = stepOf(call, a, b, c, d, no);
                if (answer == REFUSED) {
                    s = before;
                    return no;
                }
                past.addLast(before);
                if (past.size() > 20) past.removeFirst();
                s.dealOut();
                return answer;
        }
    }

    private static final int REFUSED = Integer.MIN_VALUE;

    private static int no(String call) {
        return List.of("entry", "clear", "room", "trapPlace", "want", "enter", "send", "open",
            "hand", "scale", "cancel", "handler", "slice").contains(call) ? 0 : NONE;
    }

    private int stepOf(String call, int a, int b, int c, int d, int no) {
        switch (call) {
            case "entry":
                if (!in(a, 0, 2) || !canTell(a) || !in(b, 0, 15) || !in(c, 0, a == 2 ? 9 : 15)
                    || !in(d, 1, 7)) return REFUSED;
                untell(a, b);
                table(a).tell(b, c, d);
                return 1;
            case "clear":
                if (!in(a, 0, 2) || !canTell(a) || !table(a).containsKey(b)) return REFUSED;
                untell(a, b);
                table(a).remove(b);
                return 1;
            case "room":
                if (!in(a, 1, 16)) return REFUSED;
                s.room = a;
                while (s.folded.size() > a) s.folded.remove(s.folded.eldest());
                return 1;
            case "foldAhead":
                int ahead = 0;
                while (s.folded.size() < s.room && !s.lazy().isEmpty()) {
                    int p = s.lazy().first();
                    int[] e = s.inner().table1.get(p);
                    s.folded.tell(p, s.table2.get(e[0])[0], e[1] & s.giving2(e[0]));
                    ahead++;
                }
                return ahead;
            case "join":
                int joined = 0;
                while (s.joinOnce() == 1) joined++;
                return joined;
            case "trapPlace":
                if (!in(a, -1, 23)) return REFUSED;
                s.inner().trapPlace = a;
                return 1;
            case "want":
                if (!in(a, 0, 1) || !in(b, 0, 255) || a == 1 && s.level != 1) return REFUSED;
                if (a == 0) s.wantHost = b;
                else s.wantOuter = b;
                return 1;
            case "touch":
                if (!in(a, 0, 15) || !in(b, 0, 2) || b == 1 && !in(c, 0, 9999)) return REFUSED;
                return s.touch(a, b, c);
            case "event":
                return in(a, 0, 7) ? s.event(a) : REFUSED;
            case "enter":
                if (s.level == 2) return REFUSED;
                s.level = 2;
                s.left = s.slice;
                return 1;
            case "send":
                if (!in(a, 1, 2) || !in(b, 0, 15) || a == 2 && s.level == 2
                    || s.guest(a).pending.containsKey(b)) return REFUSED;
                s.guest(a).pending.put(b, s.time);
                return 1;
            case "open":
                if (!in(a, 1, 2)) return REFUSED;
                s.guest(a).open = b != 0;
                return 1;
            case "finish":
                int ended = s.end(s.guest(s.level));
                return ended == NONE ? REFUSED : ended;
            case "hand":
                if (!in(a, 0, 2) || a == s.inHand || s.level == 2) return REFUSED;
                s.switchTo(a);
                return 1;
            default:
                return stepOfTime(call, a, b, c, d);
        }
    }

    private int stepOfTime(String call, int a, int b, int c, int d) {
        switch (call) {
            case "scale":
                if (!in(a, 1, 2) || !in(b, 1, 64) || !in(c, -9999, 9999)) return REFUSED;
                s.guest(a).scale = b;
                s.guest(a).offset = c;
                return 1;
            case "timer":
                if (!in(a, 0, 2) || !in(b, -99999, 999999) || !in(c, 0, 15)
                    || s.timers.size() == 12) return REFUSED;
                s.timers.add(new int[] {a, b, c});
                return s.timers.size();
            case "cancel":
                if (!in(a, 0, s.timers.size() - 1)) return REFUSED;
                s.timers.remove(a);
                return 1;
            case "handler":
                if (!List.of(1, 4, 6, 8).contains(a) || !in(b, -1, 23)) return REFUSED;
                if (b == NONE) s.handlers.remove(a);
                else s.handlers.put(a, b);
                return 1;
            case "slice":
                if (!in(a, 0, 99)) return REFUSED;
                s.slice = a;
                return 1;
            case "forget":
                int count = s.changed.size();
                s.changed.clear();
                return count;
            case "pass":
                if (!in(a, 1, 200) || s.time + a > 99999) return REFUSED;
                int due = 0;
                for (int i = 0; i < a; i++) {
                    due += s.tick();
                    s.dealOut();
                }
                return due;
            case "act":
                if (!in(a, 1, 2)) return REFUSED;
                int[] most = (a == 1 ? OUTER_ACTS : INNER_ACTS).get(b);
                if (most == null || !in(c, 0, most[0]) || !in(d, 0, most[1])
                    || s.guest(a).acts.size() == 24) return REFUSED;
                s.guest(a).acts.add(new int[] {b, c, d});
                return s.guest(a).acts.size();
            case "wipe":
                if (!in(a, 1, 2)) return REFUSED;
                int had = s.guest(a).acts.size();
                s.guest(a).acts.clear();
                s.guest(a).place = 0;
                return had;
            case "run":
                if (!in(a, 1, 200) || s.time + a > 99999) return REFUSED;
                int before = s.exits.size();
                for (int i = 0; i < a; i++) s.go();
                return s.exits.size() - before;
            default:
                throw new IllegalArgumentException(call);
        }
    }

    private <T> List<T> latest(List<T> all) {
        return all.subList(Math.max(0, all.size() - 24), all.size());
    }

    /** What a call that changes nothing answers. */
    long ask(String call, int a, int b, int c) {
        Guest in = s.inner();
        switch (call) {
            case "is": return s.is(a);
            case "told":
                if (!in(a, 0, 3) || !table(a).containsKey(b) || !in(c, 0, 1)) return NONE;
                return table(a).get(b)[c];
            case "folded": return s.folded.nth(a);
            case "frame": return in(a, 0, 9) ? s.values[a] : NONE;
            case "handled": return s.handlers.getOrDefault(a, NONE);
            case "stored": return s.stored.getOrDefault(a, NONE);
            case "backed": return s.table2.nth(a);
            case "copied": return bits(s.copied);
            case "trapped":
                return in(a, 0, 2) ? List.of(in.trappedPage, in.trappedPlace, in.trapPlace).get(a) : NONE;
            case "heard":
                List<Integer> heard = latest(s.heard);
                if (a == NONE) return heard.size();
                return in(a, 0, heard.size() - 1) ? heard.get(a) : NONE;
            case "changed": return bits(s.changed);
            case "walk": return in(a, 0, 15) && in(b, 0, 2) ? walk(a, b) : NONE;
            case "given":
                if (!in(a, 0, 15)) return NONE;
                int rights = 0;
                for (int way = 0; way < 3; way++) if (walk(a, way) >= 0) rights |= 1 << way;
                return rights;
            case "lazy": return bits(s.lazy());
            case "aliases":
                if (!in(a, 0, 9)) return NONE;
                TreeSet<Integer> aliases = new TreeSet<>();
                for (int v : in.table0.keySet()) {
                    int[] e1 = in.table1.get(in.table0.get(v)[0]);
                    int[] e2 = e1 == null ? null : s.table2.get(e1[0]);
                    if (e2 != null && e2[0] == a) aliases.add(v);
                }
                return bits(aliases);
            case "free": return s.free().isEmpty() ? NONE : s.free().first();
            case "wanted":
                return in(a, 0, 2) ? List.of(s.wantHost, s.wantOuter, s.wantHost | s.wantOuter).get(a) : NONE;
            case "whose": return in(a, 0, 7) ? s.whose(a) : NONE;
            case "exit":
                List<int[]> exits = latest(s.exits);
                if (a == NONE) return exits.size();
                return in(a, 0, exits.size() - 1) && in(b, 0, 3) ? exits.get(a)[b] : -2;
            case "exits": return latest(s.exits).stream().filter(e -> e[1] == a).count();
            case "pending": return in(a, 1, 2) ? bits(s.guest(a).pending.keySet()) : NONE;
            case "service": return in(a, 1, 2) ? bits(s.guest(a).service) : NONE;
            case "putBy":
                if (!in(a, 0, 2) || a == s.inHand || !in(b, 0, 6)) return NONE;
                Guest by = s.inners[a];
                return List.of(by.table0.size(), by.table1.size(), by.place, bits(by.pending.keySet()),
                    bits(by.service), bool(by.open), by.acts.size()).get(b);
            case "spent": return in(a, 0, 3) ? s.spent[a] : NONE;
            case "seenOf": return in(a, 0, 7) && in(b, 0, 2) ? s.seen[a][b] : NONE;
            case "isOpen": return in(a, 1, 2) ? bool(s.guest(a).open) : 0;
            case "taken":
                if (!in(a, 1, 2) || s.taken.get(a - 1).isEmpty()) return NONE;
                return s.taken.get(a - 1).get(s.taken.get(a - 1).size() - 1);
            case "longest": return in(a, 1, 2) ? s.longest[a - 1] : NONE;
            case "pendingFor":
                if (!in(a, 1, 2) || !s.guest(a).pending.containsKey(b)) return NONE;
                return s.time - s.guest(a).pending.get(b);
            case "steps": return past.size();
            case "share":
                if (s.exits.isEmpty()) return 0;
                return Double.doubleToLongBits((double) s.exitsOf(0) / (double) s.exits.size());
            default: return foretell(call, a, b, c);
        }
    }

    private int walk(int page, int way) {
        if (!s.inner().table0.has(page, way)) return -2;
        int p1 = s.inner().table0.get(page)[0];
        if (!s.inner().table1.has(p1, way)) return -3;
        int p2 = s.inner().table1.get(p1)[0];
        return (s.giving2(p2) >> way & 1) == 0 ? -4 : s.table2.get(p2)[0];
    }

    private long foretell(String call, int a, int b, int c) {
        State f = s.copy();
        switch (call) {
            case "clock": return in(a, 0, 2) ? s.clock(a, s.time) : -1000000000;
            case "timed":
                if (a == NONE) return s.timers.size();
                if (!in(a, 0, s.timers.size() - 1) || !in(b, 0, 3)) return -1000000000;
                return b == 3 ? s.due(a) : s.timers.get(a)[b];
            case "first":
                List<Integer> order = new ArrayList<>();
                for (int i = 0; i < s.timers.size(); i++) if (s.due(i) != NONE) order.add(i);
                Collections.sort(order, (x, y) -> {
                    int[] tx = s.timers.get(x);
                    int[] ty = s.timers.get(y);
                    int dx = s.due(x);
                    int dy = s.due(y);
                    return dx != dy ? dx - dy : tx[0] != ty[0] ? tx[0] - ty[0]
                        : tx[1] != ty[1] ? tx[1] - ty[1] : x - y;
                });
                return order.isEmpty() ? NONE : order.get(0);
            case "program":
                if (!in(a, 1, 2)) return -2;
                if (b == NONE) return s.guest(a).acts.size();
                return in(b, 0, s.guest(a).acts.size() - 1) && in(c, 0, 2) ? s.guest(a).acts.get(b)[c] : -2;
            case "foretold":
                if (!in(a, 1, 200) || s.time + a > 99999) return NONE;
                for (int i = 0; i < a; i++) f.go();
                return f.is(b);
            case "till":
                for (int i = 1; i <= 200 && f.time < 99999; i++) {
                    f.go();
                    if (f.exitsOf(1) != s.exitsOf(1)) return i;
                }
                return NONE;
            case "waits":
                if (!in(a, 1, 2)) return NONE;
                for (int i = 1; i <= 200 && f.time < 99999; i++) {
                    f.go();
                    if (f.taken.get(a - 1).size() != s.taken.get(a - 1).size()) return i;
                }
                return NONE;
            case "roomiest":
                if (!in(a, 1, 100) || s.time + a > 99999) return NONE;
                List<Integer> seen = new ArrayList<>();
                for (int room = 1; room <= 16; room++) {
                    f = s.copy();
                    f.folded.clear();
                    f.room = room;
                    for (int i = 0; i < a; i++) f.go();
                    seen.add(f.exitsOf(0) - s.exitsOf(0));
                }
                return 1 + seen.indexOf(Collections.min(seen));
            case "plainly": return in(a, 1, 200) && in(b, 0, 15) ? plainly(a)[2 + b] : NONE;
            case "plainTraps": return in(a, 1, 200) ? plainly(a)[0] : NONE;
            case "plainHeard": return in(a, 1, 200) ? plainly(a)[1] : NONE;
            default: throw new IllegalArgumentException(call);
        }
    }

    /** {traps, heard, VALUES of INNER PAGES}. */
    private int[] plainly(int n) {
        int[] r = new int[18];
        r[1] = NONE;
        Guest g = s.inner().copy();
        for (int p : g.table1.keySet()) {
            int p2 = g.table1.get(p)[0];
            r[2 + p] = s.table2.containsKey(p2) ? s.values[s.table2.get(p2)[0]] : s.stored.getOrDefault(p2, 0);
        }
        for (int i = 0; i < n && !g.acts.isEmpty(); i++) {
            int at = g.place;
            int[] act = g.acts.get(at);
            g.place = (at + 1) % g.acts.size();
            if (act[0] > 2) {
                State.alone(g, act);
            } else if (!g.table0.has(act[1], act[0])) {
                r[0]++;
                g.trappedPage = act[1];
                State.trapAt(g, at);
            } else {
                int cell = 2 + g.table0.get(act[1])[0];
                if (act[0] == 1) r[cell] = act[2];
                else r[1] = r[cell];
            }
        }
        return r;
    }
}
