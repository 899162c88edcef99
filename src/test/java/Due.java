/** Answers that are due: what a test got is compared, a difference is printed and counted. */
final class Due {
    private static final int PROMISES = 70;
    private static int wrong;
    private static int compared;

    private Due() {
    }

    /** What is compared begins with the number of the promise by which the answer is due. */
    static void is(String what, long got, long due) {
        compared++;
        int promise = promiseOf(what);
        if (promise < 1 || promise > PROMISES) {
            wrong++;
            System.out.println("no promise's number ahead of: " + what);
        }
        if (got != due) {
            wrong++;
            System.out.println(what + " answered " + got + ", due is " + due);
        }
    }

    static void yes(String what, boolean got) {
        is(what, got ? 1 : 0, 1);
    }

    static void no(String what, boolean got) {
        is(what, got ? 1 : 0, 0);
    }

    private static int promiseOf(String what) {
        int space = what.indexOf(' ');
        String number = space < 0 ? "" : what.substring(0, space);
        return number.matches("[0-9]{1,2}") ? Integer.parseInt(number) : 0;
    }

    /** At the end of a test: exit code 1 if an answer was not the one that is due. */
    static void end() {
        System.out.println(wrong == 0 ? compared + " answers are as due" : wrong + " answers are not as due");
        if (wrong != 0) System.exit(1);
    }
}
