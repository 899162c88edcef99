import java.util.function.IntPredicate;
import java.util.function.IntToLongFunction;

/** What a sentence of the document allows of one number, looked at there and beyond. */
final class Edges {
    private Edges() {
    }

    /** All from the least to the greatest are taken; the next one beyond each isn't, nor one far off. */
    static void taken(String what, int least, int most, IntPredicate isTaken) {
        Due.yes(what + ": " + least + ", the least", isTaken.test(least));
        Due.yes(what + ": " + most + ", the greatest", isTaken.test(most));
        Due.no(what + ": " + (least - 1) + ", below the least", isTaken.test(least - 1));
        Due.no(what + ": " + (most + 1) + ", above the greatest", isTaken.test(most + 1));
        Due.no(what + ": far below", isTaken.test(Integer.MIN_VALUE));
        Due.no(what + ": far above", isTaken.test(Integer.MAX_VALUE));
    }

    /** One answer for all that are below the least or above the greatest. */
    static void others(String what, int least, int most, long due, IntToLongFunction call) {
        Due.is(what + ": " + (least - 1), call.applyAsLong(least - 1), due);
        Due.is(what + ": " + (most + 1), call.applyAsLong(most + 1), due);
        Due.is(what + ": far below", call.applyAsLong(Integer.MIN_VALUE), due);
        Due.is(what + ": far above", call.applyAsLong(Integer.MAX_VALUE), due);
    }
}
