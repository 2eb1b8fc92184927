import java.util.function.IntConsumer;
import java.util.function.Supplier;

/** Asks a call at the edges of what it takes, and on either side of them. */
final class Edges {
    /** A call on a row, with the number of a chord. */
    interface OfChord {
        void call(FiguredBass x, int chord);
    }

    private static final int[] SIZES = {0, 1, 2, 11, 12};

    private Edges() {
    }

    /**
     * "If there is no such chord": rows of several sizes, and one that chords were dropped off.
     * Where the call is due to be refused, the row tells the same as before.
     */
    static void chords(Check check, String call, OfChord run) {
        for (int size : SIZES) {
            chordsOf(check, call + " in a row of " + size, () -> Rows.rowOf(size), size, run);
        }
        chordsOf(check, call + " in a row of 12 with two dropped", Edges::dropped, 10, run);
    }

    private static FiguredBass dropped() {
        FiguredBass x = Rows.rowOf(12);
        x.drop();
        x.drop();
        return x;
    }

    private static void chordsOf(
            Check check, String call, Supplier<FiguredBass> made, int size, OfChord run) {
        FiguredBass row = made.get();
        for (int chord : new int[] {Integer.MIN_VALUE, -2, -1, size, size + 1, 12, 13, Integer.MAX_VALUE}) {
            if (chord < 0 || chord >= size) {
                check.refused(row, call + ", chord " + chord, Rows.NO_INDEX, () -> run.call(row, chord));
            }
        }
        for (int chord : new int[] {0, 1, size - 2, size - 1}) {
            if (chord >= 0 && chord < size) {
                check.taken(call + ", chord " + chord, () -> run.call(made.get(), chord));
            }
        }
    }

    /** What is low to high is taken; what is just beside, or far off, is refused, and changes nothing. */
    static void numbers(
            Check check, FiguredBass x, String call, int low, int high,
            Class<? extends RuntimeException> due, IntConsumer run) {
        for (int number : new int[] {Integer.MIN_VALUE, low - 2, low - 1, high + 1, high + 2, Integer.MAX_VALUE}) {
            check.refused(x, call + " with " + number, due, () -> run.accept(number));
        }
        for (int number = low; number <= high; number++) {
            int taken = number;
            check.taken(call + " with " + taken, () -> run.accept(taken));
        }
        check.refused(x, call + " with " + (low - 1) + " again", due, () -> run.accept(low - 1));
        check.refused(x, call + " with " + (high + 1) + " again", due, () -> run.accept(high + 1));
    }
}
