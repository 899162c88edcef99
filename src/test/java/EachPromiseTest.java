import java.io.IOException;
import java.nio.file.DirectoryStream;
import java.nio.file.Files;
import java.nio.file.Path;
import java.util.regex.Matcher;
import java.util.regex.Pattern;

/** Each promise of the document is compared in the tests of its edges, and in others. Run from the project's directory. */
public final class EachPromiseTest {
    private static final int PROMISES = 70;
    private static final Pattern COMPARED = Pattern.compile("(?:Due|Edges)\\.\\w+\\(\"(\\d+) ?[^\"]*\"");

    private EachPromiseTest() {
    }

    public static void main(String[] args) throws IOException {
        int wrong = missing("*EdgesTest.java", 2) + missing("*PromisesTest.java", 1);
        System.out.println(wrong == 0 ? "each promise is compared" : wrong + " promises are not compared");
        if (wrong != 0) System.exit(1);
    }

    /** How many promises are compared fewer times than that in these files. */
    private static int missing(String files, int least) throws IOException {
        int[] compared = new int[PROMISES + 1];
        try (DirectoryStream<Path> tests = Files.newDirectoryStream(Path.of("src/test/java"), files)) {
            for (Path test : tests) count(Files.readString(test), compared);
        }
        int wrong = 0;
        for (int promise = 1; promise <= PROMISES; promise++) {
            if (compared[promise] < least) {
                wrong++;
                System.out.println("promise " + promise + " is compared " + compared[promise] + " times in " + files);
            }
        }
        return wrong;
    }

    private static void count(String text, int[] compared) {
        Matcher matcher = COMPARED.matcher(text);
        while (matcher.find()) {
            int promise = Integer.parseInt(matcher.group(1));
            if (promise >= 1 && promise <= PROMISES) compared[promise]++;
        }
    }
}
