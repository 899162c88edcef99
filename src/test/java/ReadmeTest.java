import java.io.IOException;
import java.lang.reflect.Method;
import java.nio.file.Files;
import java.nio.file.Path;
import java.util.HashMap;
import java.util.List;
import java.util.Map;
import java.util.TreeSet;
import java.util.regex.Matcher;
import java.util.regex.Pattern;

/** What README.md says of calls and their answers is so. Run from the project's directory. */
public final class ReadmeTest {
    private static final Pattern PROMISE = Pattern.compile("## Promise (\\d+): (\\w+)");
    private static final Pattern CALL =
        Pattern.compile("levels\\.(\\w+)\\(([^)]*)\\);\\s*// (true|false|-?\\d+): .*");
    private static final Pattern ROW = Pattern.compile("\\| `(\\S+)` \\| (.+) \\|");
    private static final Pattern ALWAYS = Pattern.compile("These can always be: ([^.]+)\\.");
    private static final List<Integer> FAR_OFF = List.of(Integer.MIN_VALUE, -100000, 1000000, Integer.MAX_VALUE);

    private final Map<String, Integer> promises = new HashMap<>();
    private final Map<String, Method> face = new HashMap<>();

    private ReadmeTest() throws IOException {
        Matcher promise = PROMISE.matcher(Files.readString(Path.of("../shared/DOC.md")));
        while (promise.find()) promises.put(promise.group(2), Integer.parseInt(promise.group(1)));
        for (Method method : GuestLevels.class.getDeclaredMethods()) {
            if (promises.containsKey(method.getName())) face.put(method.getName(), method);
        }
    }

    public static void main(String[] args) throws Exception {
        String readme = Files.readString(Path.of("README.md"));
        ReadmeTest test = new ReadmeTest();
        test.examples(readme);
        test.answers(readme);
        test.eachCallOnce(readme);
        Due.end();
    }

    /** Every call of an example answers what stands behind it. */
    private void examples(String readme) throws Exception {
        GuestLevels levels = null;
        int calls = 0;
        for (String line : readme.split("\n")) {
            if (line.startsWith("GuestLevels levels = new")) levels = new GuestLevels();
            if (!line.startsWith("levels.")) continue;
            Matcher call = CALL.matcher(line);
            Due.yes("1 README.md: an answer stands behind " + line, call.matches());
            Object[] arguments = parsed(face.get(call.group(1)), call.group(2));
            Due.is(label(call.group(1)) + call.group(2), told(levels, call.group(1), arguments), number(call.group(3)));
            calls++;
        }
        Due.yes("1 README.md has examples", calls > 20);
    }

    /** A call that can't be is answered by what its row says, is no STEP, and changes no LEVEL or TIME. */
    private void answers(String readme) throws Exception {
        Matcher row = ROW.matcher(readme);
        while (row.find()) {
            for (String name : row.group(2).split(", ")) {
                for (int off : FAR_OFF) {
                    GuestLevels levels = hindering(name);
                    int steps = levels.steps();
                    long before = levels.is(0) * 100000L + levels.is(1);
                    Object[] arguments = filled(face.get(name), off);
                    Due.is(label(name) + off, told(levels, name, arguments), number(row.group(1)));
                    Due.is(label(name) + "is no STEP", levels.steps(), steps);
                    Due.is(label(name) + "changes nothing", levels.is(0) * 100000L + levels.is(1), before);
                }
            }
        }
    }

    /** In which a call without arguments can't be, too. */
    private static GuestLevels hindering(String name) {
        GuestLevels levels = new GuestLevels();
        if (name.equals("enter")) levels.enter();
        if (name.equals("free")) for (int frame = 0; frame < 10; frame++) levels.entry(2, frame, frame, 1);
        return levels;
    }

    private void eachCallOnce(String readme) {
        TreeSet<String> named = new TreeSet<>();
        StringBuilder lists = new StringBuilder();
        Matcher row = ROW.matcher(readme);
        while (row.find()) lists.append(row.group(2)).append(", ");
        Matcher always = ALWAYS.matcher(readme);
        Due.yes("1 README.md says what can always be", always.find());
        lists.append(always.group(1));
        for (String name : lists.toString().split(",\\s+")) {
            Due.yes("1 README.md names once: " + name, face.containsKey(name) && named.add(name));
        }
        Due.is("1 calls that README.md names", named.size(), face.size());
    }

    private String label(String name) {
        return promises.get(name) + " README.md: " + name + " ";
    }

    private long told(GuestLevels levels, String name, Object[] arguments) throws Exception {
        return number(String.valueOf(face.get(name).invoke(levels, arguments)));
    }

    private static long number(String answer) {
        switch (answer) {
            case "true": return 1;
            case "false": return 0;
            case "NONE": return GuestLevels.NONE;
            default: return Long.parseLong(answer);
        }
    }

    private static Object[] parsed(Method method, String texts) {
        Object[] arguments = new Object[method.getParameterCount()];
        String[] text = texts.split(", ");
        for (int i = 0; i < arguments.length; i++) {
            boolean isTruth = method.getParameterTypes()[i] == boolean.class;
            arguments[i] = isTruth ? (Object) Boolean.valueOf(text[i]) : (Object) Integer.valueOf(text[i]);
        }
        return arguments;
    }

    private static Object[] filled(Method method, int off) {
        Object[] arguments = new Object[method.getParameterCount()];
        for (int i = 0; i < arguments.length; i++) {
            boolean isTruth = method.getParameterTypes()[i] == boolean.class;
            arguments[i] = isTruth ? (Object) Boolean.TRUE : (Object) Integer.valueOf(off);
        }
        return arguments;
    }
}
