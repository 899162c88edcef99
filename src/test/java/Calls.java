/** The calls of GuestLevels by their names, a boolean counting 1 or 0. */
final class Calls {
    private Calls() {
    }

    private static long bool(boolean is) {
        return is ? 1 : 0;
    }

    /** A call with its arguments behind it, as "entry 1 0 0 7". */
    static long tell(GuestLevels x, String words) {
        String[] word = words.split(" ");
        int[] n = new int[4];
        for (int i = 1; i < word.length; i++) n[i - 1] = Integer.parseInt(word[i]);
        return tell(x, word[0], n[0], n[1], n[2], n[3]);
    }

    static long tell(GuestLevels x, String call, int a, int b, int c, int d) {
        switch (call) {
            case "entry": return bool(x.entry(a, b, c, d));
            case "clear": return bool(x.clear(a, b));
            case "room": return bool(x.room(a));
            case "foldAhead": return x.foldAhead();
            case "join": return x.join();
            case "trapPlace": return bool(x.trapPlace(a));
            case "want": return bool(x.want(a, b));
            case "touch": return x.touch(a, b, c);
            case "event": return x.event(a);
            case "enter": return bool(x.enter());
            case "send": return bool(x.send(a, b));
            case "open": return bool(x.open(a, b != 0));
            case "finish": return x.finish();
            case "hand": return bool(x.hand(a));
            case "scale": return bool(x.scale(a, b, c));
            case "timer": return x.timer(a, b, c);
            case "cancel": return bool(x.cancel(a));
            case "handler": return bool(x.handler(a, b));
            case "slice": return bool(x.slice(a));
            case "forget": return x.forget();
            case "pass": return x.pass(a);
            case "act": return x.act(a, b, c, d);
            case "wipe": return x.wipe(a);
            case "run": return x.run(a);
            case "undo": return x.undo();
            case "image": return x.image();
            case "back": return x.back();
            default: throw new IllegalArgumentException(call);
        }
    }

    static long ask(GuestLevels x, String call, int a, int b, int c) {
        switch (call) {
            case "is": return x.is(a);
            case "told": return x.told(a, b, c);
            case "folded": return x.folded(a);
            case "frame": return x.frame(a);
            case "handled": return x.handled(a);
            case "stored": return x.stored(a);
            case "backed": return x.backed(a);
            case "copied": return x.copied();
            case "trapped": return x.trapped(a);
            case "heard": return x.heard(a);
            case "changed": return x.changed();
            case "walk": return x.walk(a, b);
            case "given": return x.given(a);
            case "lazy": return x.lazy();
            case "aliases": return x.aliases(a);
            case "free": return x.free();
            case "wanted": return x.wanted(a);
            case "whose": return x.whose(a);
            case "exit": return x.exit(a, b);
            case "exits": return x.exits(a);
            case "pending": return x.pending(a);
            case "service": return x.service(a);
            case "putBy": return x.putBy(a, b);
            case "spent": return x.spent(a);
            case "seenOf": return x.seenOf(a, b);
            case "isOpen": return bool(x.isOpen(a));
            case "taken": return x.taken(a);
            case "longest": return x.longest(a);
            case "pendingFor": return x.pendingFor(a, b);
            case "clock": return x.clock(a);
            case "timed": return x.timed(a, b);
            case "first": return x.first();
            case "program": return x.program(a, b, c);
            case "foretold": return x.foretold(a, b);
            case "till": return x.till();
            case "waits": return x.waits(a);
            case "roomiest": return x.roomiest(a);
            case "plainly": return x.plainly(a, b);
            case "plainTraps": return x.plainTraps(a);
            case "plainHeard": return x.plainHeard(a);
            case "share": return x.share();
            case "steps": return x.steps();
            default: throw new IllegalArgumentException(call);
        }
    }
}
