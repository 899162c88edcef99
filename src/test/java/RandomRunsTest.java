import java.util.ArrayList;
import java.util.Arrays;
import java.util.List;
import java.util.Random;

/**
 * Random runs of calls, wrong arguments among them: the class answers as the Model does.
 * No object is used for more than 512 calls: what is to be asked beyond that, replicas are asked.
 */
public final class RandomRunsTest {
    private static final int MOST_CALLS = 512;
    /** {name, least and most of each argument} */
    private static final Object[][] CHEAP = {
        {"is", -1, 18}, {"told", -1, 4, -1, 16, -1, 2}, {"folded", -1, 16}, {"frame", -1, 10},
        {"handled", -1, 10}, {"stored", -1, 16}, {"backed", -1, 16}, {"copied"}, {"trapped", -1, 3},
        {"heard", -2, 24}, {"changed"}, {"walk", -1, 16, -1, 3}, {"given", -1, 16}, {"lazy"},
        {"aliases", -1, 10}, {"free"}, {"wanted", -1, 3}, {"whose", -1, 8}, {"exit", -2, 24, -1, 4},
        {"exits", -1, 10}, {"pending", 0, 3}, {"service", 0, 3}, {"putBy", -1, 3, -1, 7},
        {"spent", -1, 4}, {"seenOf", -1, 8, -1, 3}, {"isOpen", 0, 3}, {"taken", 0, 3},
        {"longest", 0, 3}, {"pendingFor", 0, 3, -1, 16}, {"clock", -1, 3}, {"timed", -2, 12, -1, 2},
        {"program", 0, 3, -2, 24, -1, 3}, {"steps"}, {"share"}};
    private static final String[] DEAR = {"foretold", "till", "waits", "roomiest", "plainly",
        "plainTraps", "plainHeard", "due", "first"};

    private final Random random;
    private final Model model = new Model();
    private final List<String> names = new ArrayList<>();
    private final List<int[]> arguments = new ArrayList<>();
    private GuestLevels x = new GuestLevels();
    private int used;
    private int wrong;
    private int commonPages;

    private RandomRunsTest(long seed) {
        random = new Random(seed);
    }

    public static void main(String[] args) {
        int runs = args.length > 0 ? Integer.parseInt(args[0]) : 1500;
        int wrong = 0;
        for (int seed = 1; seed <= runs && wrong < 5; seed++) {
            RandomRunsTest run = new RandomRunsTest(seed);
            run.go(30 + seed % 7 * 45, seed % 3, seed % 5 < 2);
            if (run.wrong > 0) {
                System.out.println("seed " + seed + " calls: " + run.calls());
            }
            wrong += run.wrong;
        }
        System.out.println(wrong == 0 ? runs + " random runs: as the model" : wrong + " answers are wrong");
        if (wrong != 0) System.exit(1);
    }

    /** Kind 0: without PROGRAMS at first, 2: much is run. With many PAGES FRAMES run short. */
    private void go(int count, int kind, boolean manyPages) {
        commonPages = manyPages ? 16 : 4;
        if (kind > 0) tellPrograms();
        for (int i = 0; i < count && names.size() < count && wrong == 0; i++) {
            tellOne(kind);
            for (int asked = random.nextInt(4); asked > 0; asked--) askOne();
            if (random.nextInt(4) == 0) askDear();
        }
        askAll();
    }

    /** Programs from which the inner guest is entered again and again. */
    private void tellPrograms() {
        for (int i = 0; i < 10; i++) act(2);
        for (int i = 0; i < 6; i++) {
            act(1);
            if (i % 2 == 0) call("act", 1, 6, 0, 0);
            if (i % 3 == 0) call("act", 1, 9, random.nextInt(commonPages), 0);
        }
        for (int reason : new int[] {1, 4, 6, 8}) call("handler", reason, random.nextInt(12), 0, 0);
        call("trapPlace", random.nextInt(10), 0, 0, 0);
    }

    private void act(int guest) {
        int act = random.nextInt(guest == 1 ? 13 : 11);
        boolean two = act == (guest == 1 ? 7 : 6);
        int a = act == 11 || act == 3 ? random.nextInt(3) : random.nextInt(commonPages);
        boolean none = act == 4 || act == 5 || act == (guest == 1 ? 6 : 7) || act == (guest == 1 ? 10 : 9);
        int b = act == 1 ? random.nextInt(3) * 11 : two ? random.nextInt(commonPages) : 0;
        call("act", guest, act, none && random.nextInt(10) > 0 ? 0 : a, b);
    }

    private int page() {
        int kind = random.nextInt(20);
        return kind == 0 ? random.nextInt(20) - 2 + wild() : random.nextInt(kind < 5 ? 16 : commonPages);
    }

    private void tellOne(int kind) {
        int sort = random.nextInt(kind == 2 ? 34 : 24);
        switch (sort) {
            case 0: case 1: case 2: case 3: call("touch", page(), random.nextInt(3) + wild(), value(), 0); break;
            case 4: case 5: case 6:
                call("entry", random.nextInt(3) + wild(), page(), page(), random.nextInt(4) == 0 ? random.nextInt(9) : 7);
                break;
            case 7: call("clear", random.nextInt(3) + wild(), page(), 0, 0); break;
            case 8: call(random.nextBoolean() ? "foldAhead" : "join", 0, 0, 0, 0); break;
            case 9: call("room", random.nextInt(random.nextBoolean() ? 4 : 18), 0, 0, 0); break;
            case 10: call("want", random.nextInt(2) + wild(), random.nextInt(300) & random.nextInt(300), 0, 0); break;
            case 11: call("event", random.nextInt(9) - random.nextInt(2), 0, 0, 0); break;
            case 12: case 13: call("enter", 0, 0, 0, 0); break;
            case 14: call("send", 1 + random.nextInt(2) + wild(), random.nextInt(17), 0, 0); break;
            case 15: call("open", 1 + random.nextInt(2) + wild(), random.nextInt(3), 0, 0); break;
            case 16: call("finish", 0, 0, 0, 0); break;
            case 17: call("hand", random.nextInt(3) + wild(), 0, 0, 0); break;
            case 18: tellTime(); break;
            case 19: call("pass", random.nextInt(random.nextInt(6) == 0 ? 210 : 5), 0, 0, 0); break;
            case 20: act(1 + random.nextInt(2) + wild()); break;
            case 21: tellSeldom(); break;
            case 22: call("undo", 0, 0, 0, 0); break;
            default: call("run", random.nextInt(random.nextInt(8) == 0 ? 210 : 6), 0, 0, 0); break;
        }
    }

    private void tellTime() {
        switch (random.nextInt(4)) {
            case 0: call("scale", 1 + random.nextInt(2) + wild(), random.nextInt(67), random.nextInt(200) - 100, 0); break;
            case 1: call("cancel", random.nextInt(4) - 1, 0, 0, 0); break;
            default:
                int near = (int) model.ask("clock", random.nextInt(3), 0, 0);
                call("timer", random.nextInt(3) + wild(), near + random.nextInt(20) - 4, random.nextInt(17), 0);
                break;
        }
    }

    private void tellSeldom() {
        switch (random.nextInt(8)) {
            case 0: call("handler", random.nextInt(10), random.nextInt(26) - 1, 0, 0); break;
            case 1: call("slice", random.nextInt(random.nextBoolean() ? 5 : 101), 0, 0, 0); break;
            case 2: call("forget", 0, 0, 0, 0); break;
            case 3: call("trapPlace", random.nextInt(27) - 2, 0, 0, 0); break;
            case 4: call("image", 0, 0, 0, 0); break;
            case 5: call("back", 0, 0, 0, 0); break;
            case 6: call("wipe", random.nextInt(4), 0, 0, 0); break;
            default: for (int i = random.nextInt(22); i > 0; i--) call("undo", 0, 0, 0, 0); break;
        }
    }

    private int wild() {
        switch (random.nextInt(60)) {
            case 0: case 1: return 3;
            case 2: case 3: return -3;
            case 4: return Integer.MAX_VALUE - 2;
            case 5: return Integer.MIN_VALUE;
            default: return 0;
        }
    }

    private int value() {
        return random.nextInt(15) == 0 ? random.nextInt(10020) - 10 : 11 * random.nextInt(4);
    }

    private void call(String name, int a, int b, int c, int d) {
        if (used == MOST_CALLS) replace();
        names.add(name);
        arguments.add(new int[] {a, b, c, d});
        used++;
        compare(name + "(" + a + "," + b + "," + c + "," + d + ")",
                Calls.tell(x, name, a, b, c, d), model.tell(name, a, b, c, d));
    }

    /** A new object that was told the same. */
    private void replace() {
        x = new GuestLevels();
        for (int i = 0; i < names.size(); i++) {
            int[] n = arguments.get(i);
            Calls.tell(x, names.get(i), n[0], n[1], n[2], n[3]);
        }
        used = names.size();
    }

    private String calls() {
        StringBuilder text = new StringBuilder();
        for (int i = 0; i < names.size(); i++) text.append(names.get(i)).append(Arrays.toString(arguments.get(i))).append(' ');
        return text.toString();
    }

    private static int[] ranges(Object[] ask) {
        int[] range = new int[6];
        for (int i = 1; i < ask.length; i++) range[i - 1] = (Integer) ask[i];
        return range;
    }

    private void askOne() {
        Object[] ask = CHEAP[random.nextInt(CHEAP.length)];
        int[] range = ranges(ask);
        int[] n = new int[3];
        for (int i = 0; i < 3; i++) n[i] = range[2 * i] + random.nextInt(range[2 * i + 1] - range[2 * i] + 1);
        if (random.nextInt(20) == 0) {
            askFarOff((String) ask[0], n[0], n[1], n[2]);
        } else {
            ask((String) ask[0], n[0], n[1], n[2]);
        }
    }

    private void askAll() {
        for (Object[] ask : CHEAP) {
            int[] range = ranges(ask);
            for (int a = range[0]; a <= range[1]; a++) {
                for (int b = range[2]; b <= range[3]; b++) {
                    for (int c = range[4]; c <= range[5]; c++) ask((String) ask[0], a, b, c);
                }
            }
        }
    }

    private void askDear() {
        String name = DEAR[random.nextInt(DEAR.length)];
        int n = random.nextInt(8) == 0 ? random.nextInt(210) - 3 : random.nextInt(30);
        switch (name) {
            case "foretold": ask(name, n, random.nextInt(20) - 1, 0); break;
            case "till": case "first": ask(name, 0, 0, 0); break;
            case "waits": ask(name, random.nextInt(3), 0, 0); break;
            case "plainly": ask(name, n, page(), 0); break;
            case "due": for (int i = 0; i < 12; i++) ask("timed", i, 3, 0); break;
            default: ask(name, n, 0, 0); break;
        }
    }

    /** Seldom with one argument that is far off. */
    private void askFarOff(String name, int a, int b, int c) {
        int far = random.nextBoolean() ? Integer.MIN_VALUE : Integer.MAX_VALUE;
        int which = random.nextInt(3);
        ask(name, which == 0 ? far : a, which == 1 ? far : b, which == 2 ? far : c);
    }

    private void ask(String name, int a, int b, int c) {
        if (used == MOST_CALLS) replace();
        used++;
        compare(name + "(" + a + "," + b + "," + c + ")", Calls.ask(x, name, a, b, c), model.ask(name, a, b, c));
    }

    private void compare(String call, long got, long due) {
        if (got != due) {
            wrong++;
            System.out.println(call + " answered " + got + ", due is " + due);
        }
    }
}
