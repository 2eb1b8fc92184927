import java.math.BigInteger;

/** Promises 18 to 22: each sentence that names an edge, at the edge and on either side of it. */
public final class WouldEdgesTest {
    private static final Check CHECK = new Check();

    public static void main(String[] args) {
        wouldTellsWhatPutWouldDo();
        wouldOfTheFirstAndTheLast();
        wouldChangesNothing();
        wouldRefusesChords();
        wouldRefusesVoices();
        wouldRefusesNotes();
        wouldNamesTheIndexFirst();
        bestAddsTheNotes();
        bestIsWhatLeadPuts();
        bestIfItCannotBeLed();
        bestChangesNothing();
        bestRefusesChords();
        adviseTheSmallestOfSeveral();
        adviseWhatCanBeLed();
        adviseWithTheNextChord();
        adviseByTheFigureForBoth();
        adviseIsAsTheModelTells();
        adviseChangesNothing();
        adviseRefusesChords();
        meanWithoutAny();
        meanOfThoseThatAreSet();
        meanOfAFullRow();
        digestOfANewObject();
        digestWrapsAround();
        digestInOrder();
        digestChangesNothing();
        CHECK.finish();
    }

    // Promise 18

    private static void wouldTellsWhatPutWouldDo() {
        CHECK.sentence("18: Returns what count(5), of all chords, would tell behind put()");
        for (int chord = 0; chord < 3; chord++) {
            for (int voice = 1; voice <= 3; voice++) {
                FiguredBass x = Rows.someRow();
                wouldIsAsPut(x, chord, voice, -1);
                wouldIsAsPut(x, chord, voice, Rows.LOWEST[voice]);
                wouldIsAsPut(x, chord, voice, Rows.LOWEST[voice] + 1);
                wouldIsAsPut(x, chord, voice, Rows.HIGHEST[voice] - 1);
                wouldIsAsPut(x, chord, voice, Rows.HIGHEST[voice]);
            }
        }
    }

    private static void wouldIsAsPut(FiguredBass x, int chord, int voice, int note) {
        int would = x.would(chord, voice, note);
        int before = x.put(chord, voice, note);
        CHECK.same("would(" + chord + ", " + voice + ", " + note + ")", would, x.count(5));
        x.put(chord, voice, before);
    }

    private static void wouldOfTheFirstAndTheLast() {
        CHECK.sentence("18: of all chords: those of the one ahead and the one behind, too");
        FiguredBass x = new FiguredBass();
        for (int chord = 0; chord < 12; chord++) {
            Rows.add(x, 0, 0, 7, 9, 18);
        }
        CHECK.same("count(5)", x.count(5), 0);
        // Four steps up and down again, and not right: the doubled fifth leaves no third.
        CHECK.same("would(5, 2, 11)", x.would(5, 2, 11), 30 + 2 + 2);
        CHECK.same("would(0, 2, 11)", x.would(0, 2, 11), 30 + 2);
        CHECK.same("would(11, 2, 11)", x.would(11, 2, 11), 30 + 2);
        CHECK.same("would(11, 1, 14), a leap, too", x.would(11, 1, 14), 30 + 7 + 2);
        CHECK.same("would(11, 2, -1)", x.would(11, 2, -1), 0);
        x.put(10, 2, -1);
        CHECK.same("would(11, 2, 11) behind one that is not set", x.would(11, 2, 11), 30);
        CHECK.same("would(10, 2, 9)", x.would(10, 2, 9), 0);
        CHECK.same("would(10, 2, 10)", x.would(10, 2, 10), 30 + 1 + 1);
    }

    private static void wouldChangesNothing() {
        CHECK.sentence("18: (nothing is changed)");
        for (int size = 1; size <= 12; size += 11) {
            for (int voice = 1; voice <= 3; voice++) {
                FiguredBass x = Rows.rowOf(size);
                int v = voice;
                int last = size - 1;
                CHECK.changesNothing(x, "would of none", () -> x.would(last, v, -1));
                CHECK.changesNothing(x, "would of the lowest", () -> x.would(0, v, Rows.LOWEST[v]));
                CHECK.changesNothing(x, "would of the highest", () -> x.would(last, v, Rows.HIGHEST[v]));
                x.put(last, v, -1);
                CHECK.changesNothing(x, "would where none is", () -> x.would(last, v, Rows.HIGHEST[v]));
                CHECK.same("note, still none", x.note(last, v), -1);
            }
        }
    }

    private static void wouldRefusesChords() {
        CHECK.sentence("18: Throws IndexOutOfBoundsException if there is no such chord");
        Edges.chords(CHECK, "would(.., 1, 7)", (x, chord) -> x.would(chord, 1, 7));
        Edges.chords(CHECK, "would(.., 3, -1)", (x, chord) -> x.would(chord, 3, -1));
    }

    private static void wouldRefusesVoices() {
        CHECK.sentence("18: Throws IndexOutOfBoundsException if voice is not 1 to 3");
        FiguredBass x = Rows.rowOf(2);
        Edges.numbers(CHECK, x, "would(1, .., 13)", 1, 3, Rows.NO_INDEX, voice -> x.would(1, voice, 13));
        Edges.numbers(CHECK, x, "would(1, .., -1)", 1, 3, Rows.NO_INDEX, voice -> x.would(1, voice, -1));
    }

    private static void wouldRefusesNotes() {
        CHECK.sentence("18: Throws IllegalArgumentException if note is not -1, and none of this voice");
        for (int voice = 1; voice <= 3; voice++) {
            FiguredBass x = Rows.rowOf(2);
            int v = voice;
            Edges.numbers(CHECK, x, "would(1, " + v + ", ..)", Rows.LOWEST[v], Rows.HIGHEST[v], Rows.NO_ARGUMENT,
                note -> x.would(1, v, note));
            CHECK.taken("would(1, " + v + ", -1)", () -> x.would(1, v, -1));
            for (int wrong : new int[] {-2, 0, 1, 4, 23, 27, 28}) {
                CHECK.refused(x, "would(1, " + v + ", " + wrong + ")", Rows.NO_ARGUMENT, () -> x.would(1, v, wrong));
            }
        }
    }

    private static void wouldNamesTheIndexFirst() {
        CHECK.sentence("18: If several exceptions apply, the one that is named first is thrown");
        FiguredBass x = Rows.rowOf(2);
        CHECK.refused(x, "would(2, 1, 15)", Rows.NO_INDEX, () -> x.would(2, 1, 15));
        CHECK.refused(x, "would(-1, 1, 4)", Rows.NO_INDEX, () -> x.would(-1, 1, 4));
        CHECK.refused(x, "would(1, 0, 14)", Rows.NO_INDEX, () -> x.would(1, 0, 14));
        CHECK.refused(x, "would(1, 4, 23)", Rows.NO_INDEX, () -> x.would(1, 4, 23));
        CHECK.refused(x, "would(1, 1, 15)", Rows.NO_ARGUMENT, () -> x.would(1, 1, 15));
    }

    // Promise 19

    private static void bestAddsTheNotes() {
        CHECK.sentence("19: 784 times the tenor, 28 times the alto, and the soprano, added");
        FiguredBass x = new FiguredBass();
        x.chord(3, 1);
        CHECK.same("best(0), the lowest notes there are", x.best(0), 784 * 5 + 28 * 8 + 12);
        FiguredBass y = new FiguredBass();
        Rows.weighAll(y, 0);
        Rows.add(y, 4, 4, 14, 18, 22);
        y.chord(4, 4);
        CHECK.same("best(1), the highest notes there are", y.best(1), 784 * 14 + 28 * 18 + 22);
    }

    private static void bestIsWhatLeadPuts() {
        CHECK.sentence("19: Returns the notes that lead() would put");
        FiguredBass x = Rows.rowOf(12);
        for (int chord = 0; chord < 12; chord++) {
            int best = x.best(chord);
            x.lead(chord);
            CHECK.same("best(" + chord + ")", best,
                784 * x.note(chord, 1) + 28 * x.note(chord, 2) + x.note(chord, 3));
            CHECK.same("best(" + chord + ") behind lead", x.best(chord), best);
        }
    }

    private static void bestIfItCannotBeLed() {
        CHECK.sentence("19: -1 if it cannot be led");
        FiguredBass x = new FiguredBass();
        x.chord(12, 3);
        CHECK.same("best(0) of one way", x.best(0), 784 * 14 + 28 * 16 + 18);
        x.setBass(0, 13);
        CHECK.same("best(0) of none", x.best(0), -1);
        x.setFigure(0, 2);
        CHECK.same("best(0) of one way again", x.best(0), 784 * 13 + 28 * 16 + 18);
        x.setFigure(0, 5);
        CHECK.same("best(0) of none again", x.best(0), -1);
        Rows.putAll(x, 0, 13, 15, 17);
        CHECK.same("best(0) of none, whatever it has", x.best(0), -1);
    }

    private static void bestChangesNothing() {
        CHECK.sentence("19: (nothing is changed)");
        for (int size = 1; size <= 12; size += 11) {
            FiguredBass x = Rows.rowOf(size);
            int last = size - 1;
            CHECK.changesNothing(x, "best", () -> x.best(0));
            CHECK.changesNothing(x, "best", () -> x.best(last));
            x.put(last, 2, -1);
            CHECK.changesNothing(x, "best of one that is not set", () -> x.best(last));
            x.setBass(last, 13);
            x.setFigure(last, 3);
            CHECK.changesNothing(x, "best of one without ways", () -> x.best(last));
        }
    }

    private static void bestRefusesChords() {
        CHECK.sentence("19: Throws IndexOutOfBoundsException if there is no such chord");
        Edges.chords(CHECK, "best(..)", (x, chord) -> x.best(chord));
    }

    // Promise 20

    private static void adviseTheSmallestOfSeveral() {
        CHECK.sentence("20: Returns this, of several the smallest");
        for (int bass = 0; bass < 14; bass++) {
            for (int figure = 0; figure < 6; figure++) {
                FiguredBass x = new FiguredBass();
                x.chord(bass, figure);
                // Alone it costs nothing with any figure by which it can be led.
                CHECK.same("bass " + bass + ", figure " + figure + ", advise(0)", x.advise(0), 0);
            }
        }
        FiguredBass x = new FiguredBass();
        Rows.add(x, 0, 1, 9, 12, 16);
        x.chord(0, 5);
        // So that the step 6 can stay above the bass 0.
        x.setWeight(5, 0);
        CHECK.same("advise(1), the steps 2, 5, 2, which can stay with the figure 1 alone", x.advise(1), 1);
        Rows.putAll(x, 0, 10, 12, 17);
        CHECK.same("advise(1), the steps 3, 5, 3", x.advise(1), 2);
        Rows.putAll(x, 0, 9, 11, 13);
        CHECK.same("advise(1), the steps 2, 4, 6", x.advise(1), 3);
        Rows.putAll(x, 0, 10, 11, 17);
        CHECK.same("advise(1), the steps 3, 4, 3", x.advise(1), 4);
        Rows.putAll(x, 0, 9, 11, 12);
        CHECK.same("advise(1), the steps 2, 4, 5", x.advise(1), 5);
        Rows.putAll(x, 0, 9, 11, 16);
        CHECK.same("advise(1), the steps 2, 4, 2", x.advise(1), 0);
    }

    private static void adviseWhatCanBeLed() {
        CHECK.sentence("20: -1 if it cannot be led with any");
        // The figure 0 can be led above each bass, so some figure is always told, and one that can be led.
        for (int bass = 0; bass < 14; bass++) {
            FiguredBass x = new FiguredBass();
            Rows.add(x, 0, 3, 13, 15, 17);
            x.chord(bass, 3);
            int figure = x.advise(1);
            CHECK.same("advise(1) is a figure", figure >= 0 && figure <= 5, true);
            x.setFigure(1, figure);
            CHECK.same("best(1) with it is none", x.best(1) < 0, false);
        }
        FiguredBass x = new FiguredBass();
        Rows.weighAll(x, 0);
        // As near as can be to the steps 2, 4, 6 above 13; but with the figure 3 there is no way.
        Rows.add(x, 13, 3, 14, 17, 18);
        x.chord(13, 3);
        CHECK.same("ways(1)", x.ways(1), 0);
        CHECK.same("advise(1)", x.advise(1), 2);
    }

    private static void adviseWithTheNextChord() {
        CHECK.sentence("20: and the cost of the next chord behind it (if there is one)");
        FiguredBass x = new FiguredBass();
        Rows.weighAll(x, 0);
        x.chord(0, 0);
        Rows.add(x, 0, 0, 10, 12, 17);
        CHECK.same("advise(0) ahead of the steps 3, 5, 3", x.advise(0), 2);
        x.put(1, 2, -1);
        CHECK.same("advise(0) ahead of one that is not set", x.advise(0), 0);
        x.put(1, 2, 12);
        CHECK.same("advise(0) ahead of it again", x.advise(0), 2);
        CHECK.same("advise(1), the last one", x.advise(1), 0);
        x.drop();
        CHECK.same("advise(0), the last one itself", x.advise(0), 0);
    }

    private static void adviseByTheFigureForBoth() {
        CHECK.sentence("20: its cost, and the cost of the next chord behind it, both with this figure");
        FiguredBass x = new FiguredBass();
        x.chord(0, 0);
        Rows.add(x, 0, 0, 9, 11, 13);
        x.setWeight(5, 0);
        // The sevenths of the figure 3 may stay: the next chord, with the bass 0, costs just its 30.
        CHECK.same("advise(0)", x.advise(0), 3);
        x.put(1, 3, 14);
        CHECK.same("advise(0), all can stay with the figure 0", x.advise(0), 0);
        Rows.putAll(x, 1, 10, 11, 17);
        // With the figure 4 all could stay, but for the fourths, which are due to come down.
        x.setWeight(4, 0);
        CHECK.same("advise(0), fourths free", x.advise(0), 4);
        x.setWeight(4, 9);
        CHECK.same("advise(0), fourths with the weight 9", x.advise(0) == 4, false);
    }

    private static void adviseIsAsTheModelTells() {
        CHECK.sentence("20: Looks for the figure that a chord had best have");
        FiguredBass x = Rows.rowOf(12);
        Model m = new Model();
        for (int chord = 0; chord < 12; chord++) {
            m.chord(x.note(chord, 0), x.told(chord, 0));
            for (int voice = 1; voice <= 3; voice++) {
                m.put(chord, voice, x.note(chord, voice));
            }
        }
        for (int chord = 0; chord < 12; chord++) {
            CHECK.same("advise(" + chord + ")", x.advise(chord), m.advise(chord));
        }
    }

    private static void adviseChangesNothing() {
        CHECK.sentence("20: (nothing is changed)");
        for (int size = 1; size <= 12; size += 11) {
            FiguredBass x = Rows.rowOf(size);
            int last = size - 1;
            CHECK.changesNothing(x, "advise", () -> x.advise(0));
            CHECK.changesNothing(x, "advise", () -> x.advise(last));
            x.put(last, 2, -1);
            CHECK.changesNothing(x, "advise of one that is not set", () -> x.advise(last));
            x.setBass(last, 13);
            x.setFigure(last, 3);
            CHECK.changesNothing(x, "advise of one without ways", () -> x.advise(last));
        }
    }

    private static void adviseRefusesChords() {
        CHECK.sentence("20: Throws IndexOutOfBoundsException if there is no such chord");
        Edges.chords(CHECK, "advise(..)", (x, chord) -> x.advise(chord));
    }

    // Promise 21

    private static void meanWithoutAny() {
        CHECK.sentence("21: 0 without any");
        FiguredBass x = new FiguredBass();
        CHECK.same("mean() of an empty row", x.mean(), 0.0);
        x.chord(0, 0);
        CHECK.same("mean() of one that is not set", x.mean(), 0.0);
        Rows.putAll(x, 0, 7, 9, -1);
        CHECK.same("mean() of one with two notes", x.mean(), 0.0);
        x.put(0, 3, 17);
        CHECK.same("mean() of one that is set", x.mean(), 30.0);
        x.put(0, 3, 18);
        CHECK.same("mean() of one that costs nothing", x.mean(), 0.0);
        x.drop();
        CHECK.same("mean() of an empty row again", x.mean(), 0.0);
    }

    private static void meanOfThoseThatAreSet() {
        CHECK.sentence("21: Returns the mean cost of all chords that are set");
        FiguredBass x = Rows.two(0, Rows.notes(0, 7, 9, 18), 0, Rows.notes(0, 7, 9, 19));
        CHECK.same("mean(): 0 and 31", x.mean(), 15.5);
        x.chord(0, 0);
        CHECK.same("mean() with one more that is not set", x.mean(), 15.5);
        Rows.putAll(x, 2, 7, 9, 19);
        CHECK.same("mean(): 0, 31 and 30", x.mean(), 61.0 / 3.0);
        x.put(0, 1, -1);
        CHECK.same("mean(): 30 and 30, the first one not set", x.mean(), 30.0);
    }

    private static void meanOfAFullRow() {
        CHECK.sentence("21: of all chords, of which there are 12");
        FiguredBass x = Rows.rowOf(12);
        Rows.weighAll(x, 9);
        CHECK.same("mean()", x.mean(), x.count(5) / 12.0);
        x.put(11, 3, -1);
        CHECK.same("mean(), the last one not set", x.mean(), x.count(5) / 11.0);
    }

    // Promise 22

    private static void digestOfANewObject() {
        CHECK.sentence("22: A number d starts with 1693; what count() tells, the weights");
        // Seven zeros, then eight times 2.
        BigInteger d = BigInteger.valueOf(1693).multiply(BigInteger.valueOf(31).pow(15));
        for (int k = 0; k < 8; k++) {
            d = d.add(BigInteger.valueOf(31).pow(k).multiply(BigInteger.TWO));
        }
        CHECK.same("the number has more than 64 bits", d.bitLength() > 64, true);
        CHECK.same("digest() of a new object", new FiguredBass().digest(), d.longValue());
    }

    private static void digestWrapsAround() {
        CHECK.sentence("22: d becomes d * 31 + x, which wraps around as a 64-bit integer");
        boolean negative = false;
        boolean positive = false;
        for (int size = 0; size <= 12; size++) {
            FiguredBass x = Rows.rowOf(size);
            long digest = x.digest();
            CHECK.same("digest() of " + size, digest, exactDigest(x, 2).longValue());
            negative |= digest < 0;
            positive |= digest > 0;
        }
        CHECK.same("there are digests of both signs", negative && positive, true);
    }

    private static void digestInOrder() {
        CHECK.sentence("22: (all in their order)");
        for (int weight = 0; weight <= 9; weight++) {
            FiguredBass x = Rows.rowOf(3);
            x.put(1, 2, -1);
            x.setKey(true);
            Rows.weighAll(x, weight);
            CHECK.same("digest() with weights of " + weight, x.digest(), exactDigest(x, weight).longValue());
        }
        // Two weights, changed with one another, make another number.
        FiguredBass y = new FiguredBass();
        y.setWeight(0, 9);
        FiguredBass z = new FiguredBass();
        z.setWeight(7, 9);
        CHECK.same("digest(), the weight 9 at first", y.digest(), new FiguredBass().digest() + 7 * 27512614111L);
        CHECK.same("digest(), the weight 9 at last", z.digest(), new FiguredBass().digest() + 7);
    }

    /** The number as it would be without an end to it; all weights are alike. */
    private static BigInteger exactDigest(FiguredBass x, int weight) {
        BigInteger d = BigInteger.valueOf(1693);
        for (int what = 0; what <= 6; what++) {
            d = next(d, x.count(what));
        }
        for (int fault = 0; fault <= 7; fault++) {
            d = next(d, weight);
        }
        for (int chord = 0; chord < x.count(0); chord++) {
            for (int voice = 0; voice <= 3; voice++) {
                d = next(d, x.note(chord, voice));
            }
            for (int what = 0; what <= 5; what++) {
                d = next(d, x.told(chord, what));
            }
            for (int fault = 0; fault <= 7; fault++) {
                d = next(d, x.faults(chord, fault));
            }
            d = next(d, x.ways(chord));
        }
        return d;
    }

    private static BigInteger next(BigInteger d, int x) {
        return d.multiply(BigInteger.valueOf(31)).add(BigInteger.valueOf(x));
    }

    private static void digestChangesNothing() {
        CHECK.sentence("22: Computes a checksum");
        for (int size = 0; size <= 12; size += 6) {
            FiguredBass x = Rows.rowOf(size);
            FiguredBass same = Rows.rowOf(size);
            x.digest();
            CHECK.same("digest() again", x.digest(), same.digest());
            CHECK.same("count(5) behind digest()", x.count(5), same.count(5));
        }
    }
}
