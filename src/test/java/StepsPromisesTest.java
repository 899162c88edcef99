import java.util.ArrayList;
import java.util.List;
import java.util.function.Supplier;

/** Promises 26, 27, 67 to 70: STEPS that are taken back, figures, THE IMAGE. */
public final class StepsPromisesTest {
    private StepsPromisesTest() {
    }

    public static void main(String[] args) {
        none();
        undo();
        theLatestTwenty();
        undoTakesAllBack();
        undoOfASwitch();
        allAnswersAreAsAhead();
        everyStep();
        asking();
        is();
        share();
        shareAsDoubles();
        image();
        imageAndSteps();
        imageStaysBehindUndo();
        Due.end();
    }

    private static void none() {
        Due.is("1 NONE", GuestLevels.NONE, -1);
        GuestLevels x = new GuestLevels();
        Due.is("26 none", x.undo(), -1);
        Due.is("70 none", x.steps(), 0);
    }

    private static void undo() {
        GuestLevels x = new GuestLevels();
        x.entry(2, 0, 5, 7);
        x.pass(4);
        x.touch(0, 1, 9);
        Due.is("70 three", x.steps(), 3);
        Due.is("26 WRITE", x.undo(), 2);
        Due.is("26 VALUE", x.frame(5), 55);
        Due.is("26 TIME passing", x.undo(), 1);
        Due.is("26 TIME", x.is(1), 0);
        Due.is("26 ENTRY", x.undo(), 0);
        Due.is("26 ENTRY", x.told(2, 0, 0), -1);
        Due.is("26 none", x.undo(), -1);
    }

    private static void theLatestTwenty() {
        GuestLevels x = new GuestLevels();
        for (int i = 0; i < 47; i++) x.pass(1);
        Due.is("70 twenty", x.steps(), 20);
        for (int i = 19; i >= 0; i--) {
            Due.is("26 how many yet", x.undo(), i);
            Due.is("26 TIME", x.is(1), 27 + i);
        }
        Due.is("26 none", x.undo(), -1);
        Due.is("26 TIME stays", x.is(1), 27);
        x.pass(2);
        Due.is("70 again", x.steps(), 1);
    }

    private static void undoTakesAllBack() {
        GuestLevels x = new GuestLevels();
        x.act(1, 6, 0, 0);
        x.act(2, 0, 3, 0);
        x.act(2, 1, 4, 5);
        x.timer(0, 3, 1);
        x.timer(2, 4, 2);
        x.open(2, true);
        x.run(9);
        x.undo();
        Due.is("26 LEVEL", x.is(0), 1);
        Due.is("26 EXITS", x.exit(-1, 0), 0);
        Due.is("26 COUNTED", x.is(5), 0);
        Due.is("26 TRAPS", x.is(7), 0);
        Due.is("26 TRAPPED", x.trapped(0), -1);
        Due.is("26 PLACE", x.is(12), 0);
        Due.is("26 TIMERS", x.timed(-1, 0), 2);
        Due.is("26 TAKEN", x.taken(2), -1);
        Due.is("26 LONGEST", x.longest(2), -1);
        Due.is("26 SPENT", x.spent(1), 0);
        Due.is("26 SEEN", x.seenOf(0, 2), 0);
    }

    private static void undoOfASwitch() {
        GuestLevels x = new GuestLevels();
        x.entry(1, 0, 0, 7);
        x.entry(2, 0, 0, 7);
        x.foldAhead();
        x.hand(2);
        x.undo();
        Due.is("26 IN HAND", x.is(17), 0);
        Due.is("26 FOLDED", x.told(3, 0, 0), 0);
        Due.is("26 TABLE 1", x.told(1, 0, 0), 0);
    }

    private static final String[][] ASKED = {{"is", "18"}, {"told", "4", "16", "2"}, {"folded", "16"},
        {"frame", "10"}, {"handled", "10"}, {"stored", "16"}, {"backed", "16"}, {"copied"}, {"trapped", "3"},
        {"heard", "24"}, {"changed"}, {"walk", "16", "3"}, {"given", "16"}, {"lazy"}, {"aliases", "10"},
        {"free"}, {"wanted", "3"}, {"exit", "24", "4"}, {"exits", "10"}, {"pending", "3"}, {"service", "3"},
        {"putBy", "3", "7"}, {"spent", "4"}, {"seenOf", "8", "3"}, {"isOpen", "3"}, {"taken", "3"},
        {"longest", "3"}, {"pendingFor", "3", "16"}, {"clock", "3"}, {"timed", "12", "4"}, {"first"},
        {"program", "3", "24", "3"}, {"till"}, {"waits", "3"}, {"plainHeard", "9"}, {"share"}};

    /** All answers of an object; each object is asked some 300 times, then another one like it. */
    private static List<Long> allAnswers(Supplier<GuestLevels> made) {
        List<Long> answers = new ArrayList<>();
        GuestLevels x = made.get();
        for (String[] ask : ASKED) {
            int[] most = {1, 1, 1};
            for (int i = 1; i < ask.length; i++) most[i - 1] = Integer.parseInt(ask[i]);
            for (int a = 0; a < most[0]; a++) {
                for (int b = 0; b < most[1]; b++) {
                    for (int c = 0; c < most[2]; c++) {
                        if (answers.size() % 300 == 299) x = made.get();
                        answers.add(Calls.ask(x, ask[0], a, b, c));
                    }
                }
            }
        }
        for (int what = 0; what < 18; what++) answers.add((long) x.foretold(7, what));
        return answers;
    }

    /** An object in which little is as at first. */
    private static GuestLevels used() {
        GuestLevels x = new GuestLevels();
        x.touch(3, 1, 22);
        for (int p = 0; p < 12; p++) x.touch(p, 1, 11 * (p / 2));
        x.join();
        for (int p = 0; p < 8; p++) x.entry(1, p, p + 2, 7);
        int[][] acts = {{1, 6, 0, 0}, {1, 9, 2, 0}, {1, 1, 14, 5}, {1, 8, 3, 0}, {1, 6, 0, 0}, {2, 0, 1, 0},
            {2, 8, 4, 0}, {2, 9, 0, 0}, {2, 1, 2, 77}, {2, 6, 2, 9}, {2, 4, 0, 0}, {2, 3, 5, 0}};
        for (int[] act : acts) x.act(act[0], act[1], act[2], act[3]);
        for (int reason : new int[] {1, 4, 6, 8}) x.handler(reason, reason / 2);
        x.trapPlace(1);
        x.want(0, 8);
        x.want(1, 32);
        x.slice(6);
        x.room(3);
        x.scale(1, 20, 4);
        x.scale(2, 9, -6);
        x.timer(0, 30, 4);
        x.timer(1, 90, 5);
        x.timer(2, 5, 6);
        x.send(1, 2);
        x.send(2, 1);
        x.run(25);
        x.open(1, true);
        x.send(2, 7);
        x.run(4);
        return x;
    }

    private static void allAnswersAreAsAhead() {
        String[] tellings = {"entry 2 4 7 7", "entry 1 2 9 3", "clear 2 5", "clear 1 2", "room 1", "foldAhead",
            "join", "trapPlace 4", "want 0 255", "want 1 255", "touch 15 1 500", "touch 13 0 0", "event 3",
            "enter", "send 1 14", "send 2 14", "open 1 0", "open 2 0", "finish", "hand 1", "hand 2",
            "scale 1 64 1", "scale 2 64 1", "timer 2 900 9", "cancel 0", "handler 8 0", "slice 50", "forget",
            "pass 30", "act 1 5 0 0", "act 2 5 0 0", "wipe 1", "wipe 2", "run 1", "run 40", "run 200"};
        List<Long> ahead = allAnswers(StepsPromisesTest::usedInLevel1);
        int steps = usedInLevel1().steps();
        for (String telling : tellings) {
            GuestLevels x = usedInLevel1();
            Calls.tell(x, telling);
            Due.is("26 " + telling + " is taken back", x.undo(), Math.min(steps, 19));
            Due.yes("26 all is as ahead of " + telling, ahead.equals(allAnswers(() -> {
                GuestLevels y = usedInLevel1();
                Calls.tell(y, telling);
                y.undo();
                return y;
            })));
            Due.yes("69 all is so again behind " + telling, ahead.equals(allAnswers(() -> toldAndBack(telling))));
            Due.is("69 STEPS", toldAndBack(telling).steps(), steps);
        }
    }

    private static GuestLevels usedInLevel1() {
        GuestLevels x = used();
        for (int i = 0; i < 4 && x.is(0) == 2; i++) x.pass(2);
        return x;
    }

    private static GuestLevels toldAndBack(String telling) {
        GuestLevels x = usedInLevel1();
        x.image();
        Calls.tell(x, telling);
        x.pass(1);
        x.back();
        return x;
    }

    private static void everyStep() {
        GuestLevels x = new GuestLevels();
        x.entry(1, 0, 0, 7);
        x.clear(1, 0);
        x.room(5);
        x.foldAhead();
        x.join();
        x.trapPlace(0);
        x.want(1, 1);
        x.touch(0, 0, 0);
        x.event(0);
        x.open(1, true);
        x.send(1, 1);
        x.finish();
        x.hand(1);
        x.scale(1, 17, 0);
        x.timer(0, 9, 9);
        Due.is("70 each is one", x.steps(), 15);
        x.cancel(0);
        x.handler(1, 0);
        x.slice(1);
        x.forget();
        x.enter();
        Due.is("70 each is one", x.steps(), 20);
        GuestLevels y = new GuestLevels();
        y.pass(1);
        y.act(1, 4, 0, 0);
        y.wipe(1);
        y.run(1);
        Due.is("70 each is one", y.steps(), 4);
        y.image();
        y.foretold(5, 1);
        y.roomiest(3);
        Due.is("70 these aren't", y.steps(), 4);
    }

    /** What is asked changes nothing. */
    private static void asking() {
        GuestLevels x = new GuestLevels();
        x.act(1, 6, 0, 0);
        x.act(2, 1, 0, 1);
        for (int i = 0; i < 3; i++) {
            x.till();
            x.waits(1);
            x.plainly(5, 0);
            x.plainTraps(5);
            x.first();
            x.walk(0, 0);
            x.lazy();
        }
        Due.is("70 two", x.steps(), 2);
        Due.is("27 TIME", x.is(1), 0);
        Due.is("27 TRAPS", x.is(7), 0);
    }

    private static void is() {
        GuestLevels x = new GuestLevels();
        x.hand(1);
        x.room(9);
        x.slice(40);
        x.entry(1, 2, 3, 7);
        x.entry(2, 3, 4, 7);
        x.foldAhead();
        for (int i = 0; i < 3; i++) x.act(1, 5, 0, 0);
        x.act(2, 4, 0, 0);
        x.act(2, 0, 1, 0);
        x.run(2);
        x.send(2, 7);
        x.enter();
        x.run(2);
        x.pass(3);
        x.touch(9, 0, 0);
        x.want(0, 2);
        x.event(1);
        x.entry(0, 0, 0, 7);
        x.touch(0, 2, 0);
        x.open(1, true);
        x.send(1, 4);
        int[] due = {1, 7, 9, 1, 9, 1, 1, 2, 0, 1, 1, 2, 0, 40, 35, 1, 2, 1};
        for (int what = 0; what < 18; what++) Due.is("27 is(" + what + ")", x.is(what), due[what]);
        Due.is("27 is(18)", x.is(18), -1);
        Due.is("27 is(-1)", x.is(-1), -1);
    }

    private static void share() {
        GuestLevels x = new GuestLevels();
        Due.is("67 without any", x.share(), 0);
        x.want(1, 1);
        x.enter();
        x.event(0);
        Due.is("67 none by the host", x.share(), 0);
        x.touch(0, 0, 0);
        Due.is("67 half", x.share(), Double.doubleToLongBits(0.5));
        x.touch(1, 0, 0);
        Due.is("67 two thirds", x.share(), Double.doubleToLongBits(2.0 / 3.0));
        GuestLevels y = new GuestLevels();
        y.touch(0, 0, 0);
        Due.is("67 all", y.share(), Double.doubleToLongBits(1.0));
    }

    private static void shareAsDoubles() {
        GuestLevels x = new GuestLevels();
        x.want(1, 1);
        x.want(0, 2);
        x.act(1, 6, 0, 0);
        x.act(2, 3, 0, 0);
        x.act(2, 3, 1, 0);
        x.act(2, 3, 1, 0);
        for (int i = 0; i < 100; i++) {
            x.run(1 + i % 7);
            int host = x.is(5);
            int all = host + x.is(6);
            double share = all == 0 ? 0.0 : (double) host / (double) all;
            Due.is("67 its bits", x.share(), Double.doubleToLongBits(share));
            if (i % 3 == 0) x.want(0, i % 9 == 0 ? 0 : 2);
        }
    }

    private static void image() {
        GuestLevels x = new GuestLevels();
        x.pass(3);
        x.touch(0, 1, 8);
        Due.is("68 TIME", x.image(), 3);
        x.touch(0, 1, 9);
        x.enter();
        x.pass(20);
        Due.is("69 TIME", x.back(), 3);
        Due.is("69 LEVEL", x.is(0), 1);
        Due.is("69 VALUE", x.frame(0), 8);
        x.touch(0, 1, 10);
        Due.is("69 it stays", x.back(), 3);
        Due.is("69 VALUE again", x.frame(0), 8);
        Due.is("68 no STEP", x.steps(), 2);
    }

    /** "All is so again": the STEPS that can be taken back, too. */
    private static void imageAndSteps() {
        GuestLevels x = new GuestLevels();
        for (int i = 0; i < 23; i++) x.pass(1);
        x.undo();
        x.image();
        for (int i = 0; i < 30; i++) x.pass(2);
        Due.is("69 back", x.back(), 22);
        Due.is("69 STEPS as then", x.steps(), 19);
        Due.is("69 undo", x.undo(), 18);
        Due.is("69 as ahead of that", x.is(1), 21);
        x.back();
        Due.is("69 and once more", x.steps(), 19);
        GuestLevels y = new GuestLevels();
        y.pass(1);
        y.back();
        Due.is("69 a new object has none", y.undo(), -1);
    }

    private static void imageStaysBehindUndo() {
        GuestLevels x = new GuestLevels();
        x.pass(5);
        x.image();
        x.undo();
        Due.is("26 TIME", x.is(1), 0);
        Due.is("69 THE IMAGE isn't taken back", x.back(), 5);
    }
}
