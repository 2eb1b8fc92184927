/** Rows of chords for the tests. */
final class Rows {
    static final Class<IndexOutOfBoundsException> NO_INDEX = IndexOutOfBoundsException.class;
    static final Class<IllegalArgumentException> NO_ARGUMENT = IllegalArgumentException.class;
    static final Class<IllegalStateException> NO_STATE = IllegalStateException.class;

    /** The notes of each voice, by its number. */
    static final int[] LOWEST = {0, 5, 8, 12};
    static final int[] HIGHEST = {13, 14, 18, 22};

    static final int[] NO_INTS = {Integer.MIN_VALUE, -1000, Integer.MAX_VALUE, 1000};

    private Rows() {
    }

    /** Adds a chord with all its notes; returns its number. */
    static int add(FiguredBass x, int bass, int figure, int tenor, int alto, int soprano) {
        int chord = x.chord(bass, figure);
        putAll(x, chord, tenor, alto, soprano);
        return chord;
    }

    static void putAll(FiguredBass x, int chord, int tenor, int alto, int soprano) {
        x.put(chord, 1, tenor);
        x.put(chord, 2, alto);
        x.put(chord, 3, soprano);
    }

    static void weighAll(FiguredBass x, int weight) {
        for (int fault = 0; fault < 8; fault++) {
            x.setWeight(fault, weight);
        }
    }

    /** Some chords, all set, each with another bass and figure than the one ahead. */
    static FiguredBass rowOf(int size) {
        FiguredBass x = new FiguredBass();
        for (int chord = 0; chord < size; chord++) {
            add(x, chord, chord % 6, 5 + chord % 10, 18 - chord % 11, 12 + chord % 11);
        }
        return x;
    }

    /** Two chords, each by its figure, and its notes of bass, tenor, alto and soprano. */
    static FiguredBass two(int figureAhead, int[] ahead, int figure, int[] here) {
        FiguredBass x = new FiguredBass();
        add(x, ahead[0], figureAhead, ahead[1], ahead[2], ahead[3]);
        add(x, here[0], figure, here[1], here[2], here[3]);
        return x;
    }

    static int[] notes(int bass, int tenor, int alto, int soprano) {
        return new int[] {bass, tenor, alto, soprano};
    }

    /** Three chords, all set, the last one not right, with faults of several kinds. */
    static FiguredBass someRow() {
        FiguredBass x = new FiguredBass();
        add(x, 0, 0, 7, 11, 16);
        add(x, 1, 0, 8, 12, 17);
        add(x, 4, 3, 8, 14, 20);
        return x;
    }
}
