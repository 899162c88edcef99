/** Answers that are due: what a test got is compared, a difference is printed and counted. */
final class Due {
    private static int wrong;
    private static int compared;

    private Due() {
    }

    static void is(String call, long got, long due) {
        compared++;
        if (got != due) {
            wrong++;
            System.out.println(call + " answered " + got + ", due is " + due);
        }
    }

    static void yes(String call, boolean got) {
        is(call, got ? 1 : 0, 1);
    }

    static void no(String call, boolean got) {
        is(call, got ? 1 : 0, 0);
    }

    /** At the end of a test: exit code 1 if an answer was not the one that is due. */
    static void end() {
        System.out.println(wrong == 0 ? compared + " answers are as due" : wrong + " answers are not as due");
        if (wrong != 0) System.exit(1);
    }
}
