/** Promises 18 to 22: what would be. */
public final class WouldTest {
    private static final Check CHECK = new Check();

    public static void main(String[] args) {
        would();
        wouldRefuses();
        best();
        advise();
        mean();
        digest();
        CHECK.finish();
    }

    // Promise 18

    private static void would() {
        FiguredBass x = Rows.someRow();
        CHECK.changesNothing(x, "would(1, 2, 18)", () -> x.would(1, 2, 18));
        CHECK.changesNothing(x, "would(1, 2, -1)", () -> x.would(1, 2, -1));
        CHECK.same("would(2, 2, 14), as it is", x.would(2, 2, 14), 44);
        CHECK.same("would(2, 1, 7)", x.would(2, 1, 7), 45);
        CHECK.same("would(0, 1, -1)", x.would(0, 1, -1), 35);
        CHECK.same("would(1, 1, -1)", x.would(1, 1, -1), 30);
        CHECK.same("would(2, 3, -1)", x.would(2, 3, -1), 9);
        x.put(1, 2, -1);
        CHECK.same("would(1, 2, 12) of none", x.would(1, 2, 12), 44);
        CHECK.same("note(1, 2)", x.note(1, 2), -1);
    }

    private static void wouldRefuses() {
        int[] lowest = {0, 5, 8, 12};
        int[] highest = {0, 14, 18, 22};
        FiguredBass x = Rows.someRow();
        for (int wrong : new int[] {-1, 3, 12, Integer.MIN_VALUE, Integer.MAX_VALUE}) {
            CHECK.refused(x, "would(" + wrong + ", 1, 7)", Rows.NO_INDEX, () -> x.would(wrong, 1, 7));
            CHECK.refused(x, "would(" + wrong + ", 1, 99)", Rows.NO_INDEX, () -> x.would(wrong, 1, 99));
        }
        for (int wrong : new int[] {-1, 0, 4, Integer.MIN_VALUE, Integer.MAX_VALUE}) {
            CHECK.refused(x, "would(0, " + wrong + ", 12)", Rows.NO_INDEX, () -> x.would(0, wrong, 12));
            CHECK.refused(x, "would(0, " + wrong + ", 99)", Rows.NO_INDEX, () -> x.would(0, wrong, 99));
        }
        for (int voice = 1; voice <= 3; voice++) {
            int v = voice;
            for (int wrong : new int[] {-2, lowest[v] - 1, highest[v] + 1, Integer.MIN_VALUE, Integer.MAX_VALUE}) {
                CHECK.refused(x, "would(1, " + v + ", " + wrong + ")", Rows.NO_ARGUMENT, () -> x.would(1, v, wrong));
            }
        }
    }

    // Promise 19

    private static void best() {
        FiguredBass x = new FiguredBass();
        x.chord(0, 0);
        CHECK.same("best(0)", x.best(0), 7 * 784 + 9 * 28 + 18);
        CHECK.same("told(0, 2) behind best", x.told(0, 2), 0);
        Rows.add(x, 0, 0, 9, 11, 14);
        CHECK.same("best(0) ahead of a set one", x.best(0), 9 * 784 + 11 * 28 + 14);
        Rows.putAll(x, 0, 7, 11, 16);
        x.setBass(1, 1);
        CHECK.changesNothing(x, "best(1)", () -> x.best(1));
        CHECK.same("best(1)", x.best(1), 5 * 784 + 10 * 28 + 15);
        Rows.weighAll(x, 0);
        CHECK.same("best(1) without weights", x.best(1), 8 * 784 + 12 * 28 + 17);
        x.setBass(1, 13);
        x.setFigure(1, 3);
        CHECK.changesNothing(x, "best(1) without ways", () -> x.best(1));
        CHECK.same("best(1) without ways", x.best(1), -1);
        for (int wrong : new int[] {-1, 2, 12, Integer.MIN_VALUE, Integer.MAX_VALUE}) {
            CHECK.refused(x, "best(" + wrong + ")", Rows.NO_INDEX, () -> x.best(wrong));
        }
    }

    // Promise 20

    private static void advise() {
        FiguredBass x = new FiguredBass();
        x.chord(13, 3);
        CHECK.changesNothing(x, "advise(0) of one without notes", () -> x.advise(0));
        CHECK.same("advise(0), the smallest of several", x.advise(0), 0);
        x.setBass(0, 0);
        x.setFigure(0, 0);
        Rows.putAll(x, 0, 7, 11, 16);
        x.chord(5, 1);
        CHECK.changesNothing(x, "advise(1) of one without notes", () -> x.advise(1));
        CHECK.same("advise(1), all can stay with the figure 3", x.advise(1), 3);
        Rows.putAll(x, 1, 14, 8, 12);
        CHECK.changesNothing(x, "advise(1)", () -> x.advise(1));
        CHECK.same("advise(1), whatever it had", x.advise(1), 3);
        x.setBass(1, 13);
        // With 0 it costs 15, with 1, 2 and 4 more; with 3 and 5 it cannot be led.
        CHECK.same("advise(1) above the bass 13", x.advise(1), 0);
        for (int wrong : new int[] {-1, 2, 12, Integer.MIN_VALUE, Integer.MAX_VALUE}) {
            CHECK.refused(x, "advise(" + wrong + ")", Rows.NO_INDEX, () -> x.advise(wrong));
        }
        adviseHeedsTheNextChord();
    }

    private static void adviseHeedsTheNextChord() {
        FiguredBass x = new FiguredBass();
        x.chord(0, 5);
        Rows.add(x, 0, 3, 9, 11, 13);
        // With the figure 3 all could stay, but for the leading note, which does not go up.
        CHECK.same("advise(0)", x.advise(0), 0);
        x.setWeight(5, 0);
        CHECK.changesNothing(x, "advise(0) ahead of a set one", () -> x.advise(0));
        CHECK.same("advise(0), leading notes free", x.advise(0), 3);
    }

    // Promise 21

    private static void mean() {
        FiguredBass x = new FiguredBass();
        CHECK.same("mean() of an empty row", x.mean(), 0.0);
        x.chord(0, 0);
        CHECK.same("mean() of none set", x.mean(), 0.0);
        x = Rows.someRow();
        CHECK.same("mean()", x.mean(), 44.0 / 3.0);
        x.put(0, 1, -1);
        CHECK.same("mean() of two set", x.mean(), 17.5);
        x.chord(3, 3);
        CHECK.same("mean() with one more that is not set", x.mean(), 17.5);
    }

    // Promise 22

    private static void digest() {
        FiguredBass x = new FiguredBass();
        CHECK.same("digest() of a new object", x.digest(), digestOf(x, 2, 2, 2, 2, 2, 2, 2, 2));
        long d = 1693;
        for (int k = 0; k < 15; k++) {
            d = d * 31 + (k < 7 ? 0 : 2);
        }
        CHECK.same("digest() of a new object, by numbers", x.digest(), d);
        FiguredBass y = Rows.someRow();
        CHECK.same("digest()", y.digest(), digestOf(y, 2, 2, 2, 2, 2, 2, 2, 2));
        for (int fault = 0; fault < 8; fault++) {
            y.setWeight(fault, fault + 1);
        }
        y.setKey(true);
        y.put(1, 3, -1);
        CHECK.same("digest() with weights", y.digest(), digestOf(y, 1, 2, 3, 4, 5, 6, 7, 8));
        CHECK.changesNothing(y, "digest()", y::digest);
    }

    private static long digestOf(FiguredBass x, int... weights) {
        long d = 1693;
        for (int what = 0; what <= 6; what++) {
            d = d * 31 + x.count(what);
        }
        for (int weight : weights) {
            d = d * 31 + weight;
        }
        for (int chord = 0; chord < x.count(0); chord++) {
            for (int voice = 0; voice <= 3; voice++) {
                d = d * 31 + x.note(chord, voice);
            }
            for (int what = 0; what <= 5; what++) {
                d = d * 31 + x.told(chord, what);
            }
            for (int fault = 0; fault <= 7; fault++) {
                d = d * 31 + x.faults(chord, fault);
            }
            d = d * 31 + x.ways(chord);
        }
        return d;
    }
}
