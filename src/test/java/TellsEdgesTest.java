/** Promises 11 to 17: each sentence that names an edge, at the edge and on either side of it. */
public final class TellsEdgesTest {
    private static final Check CHECK = new Check();

    public static void main(String[] args) {
        noteReturnsNoneAsWell();
        noteRefusesChords();
        noteRefusesVoices();
        toldOfFigureAndDegree();
        toldOfSet();
        toldOfRight();
        toldOfSteps();
        toldOfCost();
        toldRefusesChords();
        toldRefusesWhat();
        faultsRefusesChords();
        faultsRefusesKinds();
        countOfAnEmptyRow();
        countOfAFullRow();
        countOfSetAndRight();
        countOfSteps();
        countOfFaultsWithoutWeights();
        countOfCost();
        countOfMinor();
        countRefusesWhat();
        pitchOfEachOctave();
        pitchRefusesNotes();
        fitsTheRangeOfTheVoice();
        fitsTheChord();
        fitsRefusesChords();
        fitsRefusesVoices();
        fitsRefusesNotes();
        fitsNamesTheIndexFirst();
        waysOfAllFiguresAndBasses();
        waysWhateverItHas();
        waysRefusesChords();
        tellingChangesNothing();
        CHECK.finish();
    }

    // Promise 11

    private static void noteReturnsNoneAsWell() {
        CHECK.sentence("11: Returns its note there, -1 for none");
        FiguredBass x = new FiguredBass();
        x.chord(13, 0);
        CHECK.same("note(0, 0)", x.note(0, 0), 13);
        x.setBass(0, 0);
        CHECK.same("note(0, 0)", x.note(0, 0), 0);
        for (int voice = 1; voice <= 3; voice++) {
            CHECK.same("note(0, " + voice + ") at first", x.note(0, voice), -1);
            x.put(0, voice, Rows.LOWEST[voice]);
            CHECK.same("note(0, " + voice + "), the lowest", x.note(0, voice), Rows.LOWEST[voice]);
            x.put(0, voice, Rows.HIGHEST[voice]);
            CHECK.same("note(0, " + voice + "), the highest", x.note(0, voice), Rows.HIGHEST[voice]);
            x.put(0, voice, -1);
            CHECK.same("note(0, " + voice + "), none again", x.note(0, voice), -1);
        }
    }

    private static void noteRefusesChords() {
        CHECK.sentence("11: Throws IndexOutOfBoundsException if there is no such chord");
        Edges.chords(CHECK, "note(.., 0)", (x, chord) -> x.note(chord, 0));
        Edges.chords(CHECK, "note(.., 3)", (x, chord) -> x.note(chord, 3));
    }

    private static void noteRefusesVoices() {
        CHECK.sentence("11: Throws IndexOutOfBoundsException if voice is not 0 to 3");
        FiguredBass x = Rows.rowOf(12);
        for (int chord = 0; chord < 12; chord += 11) {
            int c = chord;
            Edges.numbers(CHECK, x, "note(" + c + ", ..)", 0, 3, Rows.NO_INDEX, voice -> x.note(c, voice));
        }
    }

    // Promise 12

    private static void toldOfFigureAndDegree() {
        CHECK.sentence("12: 0 its figure, 1 the degree of its bass");
        FiguredBass x = new FiguredBass();
        x.chord(0, 0);
        for (int bass = 0; bass < 14; bass++) {
            for (int figure = 0; figure < 6; figure++) {
                x.setBass(0, bass);
                x.setFigure(0, figure);
                CHECK.same("told(0, 0)", x.told(0, 0), figure);
                CHECK.same("told(0, 1)", x.told(0, 1), bass < 7 ? bass : bass - 7);
            }
        }
    }

    private static void toldOfSet() {
        CHECK.sentence("12: 2 1 if it is set, else 0");
        FiguredBass x = new FiguredBass();
        x.chord(0, 0);
        CHECK.same("told(0, 2), no note", x.told(0, 2), 0);
        x.put(0, 3, 22);
        CHECK.same("told(0, 2), one note", x.told(0, 2), 0);
        x.put(0, 1, 5);
        CHECK.same("told(0, 2), two notes", x.told(0, 2), 0);
        x.put(0, 2, 8);
        CHECK.same("told(0, 2), three notes, right or not", x.told(0, 2), 1);
        x.put(0, 3, -1);
        CHECK.same("told(0, 2), two notes again", x.told(0, 2), 0);
    }

    private static void toldOfRight() {
        CHECK.sentence("12: 3 1 if it is right, else 0");
        FiguredBass x = new FiguredBass();
        x.chord(0, 0);
        CHECK.same("told(0, 3), not set", x.told(0, 3), 0);
        Rows.putAll(x, 0, 7, 9, 17);
        CHECK.same("told(0, 3), one below", x.told(0, 3), 0);
        x.put(0, 3, 18);
        CHECK.same("told(0, 3)", x.told(0, 3), 1);
        x.put(0, 3, 19);
        CHECK.same("told(0, 3), one above", x.told(0, 3), 0);
    }

    private static void toldOfSteps() {
        CHECK.sentence("12: 4 the steps by which its upper voices go from the chord ahead, without signs, added, "
            + "if there is one, and both are set, else 0");
        FiguredBass x = Rows.two(0, Rows.notes(0, 5, 18, 12), 0, Rows.notes(13, 14, 8, 22));
        CHECK.same("told(0, 4), none ahead", x.told(0, 4), 0);
        CHECK.same("told(1, 4), as many as there can be", x.told(1, 4), 9 + 10 + 10);
        for (int chord = 0; chord < 2; chord++) {
            for (int voice = 1; voice <= 3; voice++) {
                int before = x.put(chord, voice, -1);
                CHECK.same("told(1, 4), one of them not set", x.told(1, 4), 0);
                x.put(chord, voice, before);
            }
        }
        CHECK.same("told(1, 4), both set again", x.told(1, 4), 29);
        Rows.putAll(x, 1, 5, 18, 12);
        CHECK.same("told(1, 4), none goes", x.told(1, 4), 0);
        x.put(1, 1, 6);
        CHECK.same("told(1, 4), one up by 1", x.told(1, 4), 1);
        x.put(1, 2, 17);
        CHECK.same("told(1, 4), one down by 1, too", x.told(1, 4), 2);
    }

    private static void toldOfCost() {
        CHECK.sentence("12: 5 its cost");
        FiguredBass x = new FiguredBass();
        x.chord(0, 0);
        x.chord(0, 0);
        CHECK.same("told(0, 5), not set", x.told(0, 5), 0);
        Rows.putAll(x, 0, 5, 18, 12);
        CHECK.same("told(0, 5), not right", x.told(0, 5), 30);
        CHECK.same("told(1, 5), not set behind one that is", x.told(1, 5), 0);
        Rows.putAll(x, 1, 14, 8, 22);
        Rows.weighAll(x, 9);
        CHECK.same("told(1, 5): not right, 29 steps, and three leaps of 9", x.told(1, 5), 30 + 29 + 27);
        x.setWeight(7, 0);
        CHECK.same("told(1, 5) without weights", x.told(1, 5), 30 + 29);
        // Not right; four fifths, two octaves and a hidden one, each with a weight of its own, and six steps.
        FiguredBass y = Rows.two(0, Rows.notes(0, 7, 11, 18), 0, Rows.notes(2, 9, 13, 20));
        y.setWeight(0, 9);
        y.setWeight(1, 1);
        y.setWeight(2, 4);
        CHECK.same("told(1, 5)", y.told(1, 5), 30 + 6 + 4 * 9 + 2 * 1 + 4);
    }

    private static void toldRefusesChords() {
        CHECK.sentence("12: Throws IndexOutOfBoundsException if there is no such chord");
        for (int what = 0; what <= 5; what++) {
            int w = what;
            Edges.chords(CHECK, "told(.., " + w + ")", (x, chord) -> x.told(chord, w));
        }
    }

    private static void toldRefusesWhat() {
        CHECK.sentence("12: Throws IndexOutOfBoundsException if what is not 0 to 5");
        FiguredBass x = Rows.rowOf(12);
        for (int chord = 0; chord < 12; chord += 11) {
            int c = chord;
            Edges.numbers(CHECK, x, "told(" + c + ", ..)", 0, 5, Rows.NO_INDEX, what -> x.told(c, what));
        }
    }

    // Promise 13; the faults themselves stand in FaultsEdgesTest

    private static void faultsRefusesChords() {
        CHECK.sentence("13: Throws IndexOutOfBoundsException if there is no such chord");
        for (int fault = 0; fault <= 7; fault++) {
            int f = fault;
            Edges.chords(CHECK, "faults(.., " + f + ")", (x, chord) -> x.faults(chord, f));
        }
    }

    private static void faultsRefusesKinds() {
        CHECK.sentence("13: Throws IndexOutOfBoundsException if fault is not 0 to 7");
        FiguredBass x = Rows.rowOf(12);
        for (int chord = 0; chord < 12; chord += 11) {
            int c = chord;
            Edges.numbers(CHECK, x, "faults(" + c + ", ..)", 0, 7, Rows.NO_INDEX, fault -> x.faults(c, fault));
        }
    }

    // Promise 14

    private static void countOfAnEmptyRow() {
        CHECK.sentence("14: count of an empty row");
        FiguredBass x = new FiguredBass();
        countsAre(x, 0, 0, 0, 0, 0, 0, 0);
        x.chord(0, 0);
        countsAre(x, 1, 0, 0, 0, 0, 0, 0);
        Rows.putAll(x, 0, 7, 9, 18);
        countsAre(x, 1, 1, 1, 0, 0, 0, 0);
        x.put(0, 3, 17);
        countsAre(x, 1, 1, 0, 0, 0, 30, 0);
        x.drop();
        countsAre(x, 0, 0, 0, 0, 0, 0, 0);
    }

    private static void countOfAFullRow() {
        CHECK.sentence("14: count of a full row, the first and the last chord as well");
        FiguredBass x = new FiguredBass();
        for (int chord = 0; chord < 12; chord++) {
            Rows.add(x, 0, 0, chord % 2 == 0 ? 7 : 14, 9, 18);
        }
        // Even ones are right; odd ones have the alto lower than the tenor. Each but the first leaps by 7.
        countsAre(x, 12, 12, 6, 77, 11, 6 * 30 + 77 + 22, 0);
        x.put(0, 1, -1);
        countsAre(x, 12, 11, 5, 70, 10, 6 * 30 + 70 + 20, 0);
        x.put(11, 1, -1);
        countsAre(x, 12, 10, 5, 63, 9, 5 * 30 + 63 + 18, 0);
    }

    private static void countOfSetAndRight() {
        CHECK.sentence("14: 1 those that are set, 2 those that are right");
        FiguredBass x = new FiguredBass();
        for (int chord = 0; chord < 12; chord++) {
            x.chord(0, 0);
            countsAre(x, chord + 1, chord, (chord + 1) / 2);
            Rows.putAll(x, chord, 7, 9, chord % 2 == 0 ? 18 : 19);
            countsAre(x, chord + 1, chord + 1, chord / 2 + 1);
        }
    }

    private static void countOfSteps() {
        CHECK.sentence("14: 3 the steps of told(.., 4) of all chords, added");
        FiguredBass x = Rows.rowOf(12);
        int sum = 0;
        for (int chord = 0; chord < 12; chord++) {
            sum += x.told(chord, 4);
        }
        CHECK.same("count(3)", x.count(3), sum);
        // 11 times by 3, but for the tenor once from 14 to 5, and alto and soprano once by 10 each.
        CHECK.same("count(3)", x.count(3), 9 * 3 + (9 + 2) + (1 + 20));
        x.put(5, 2, -1);
        CHECK.same("count(3) with a gap", x.count(3), 7 * 3 + (9 + 2) + (1 + 20));
    }

    private static void countOfFaultsWithoutWeights() {
        CHECK.sentence("14: 4 faults of all kinds and chords, without weights");
        FiguredBass x = Rows.rowOf(12);
        int sum = 0;
        for (int chord = 0; chord < 12; chord++) {
            for (int fault = 0; fault < 8; fault++) {
                sum += x.faults(chord, fault);
            }
        }
        for (int weight : new int[] {0, 1, 9}) {
            Rows.weighAll(x, weight);
            CHECK.same("count(4) with weights of " + weight, x.count(4), sum);
        }
        FiguredBass y = Rows.two(0, Rows.notes(0, 7, 14, 21), 0, Rows.notes(1, 8, 15, 22));
        CHECK.same("count(4), six octaves", y.count(4), 6);
        Rows.weighAll(y, 0);
        CHECK.same("count(4), six octaves without weights", y.count(4), 6);
    }

    private static void countOfCost() {
        CHECK.sentence("14: 5 the cost of all chords, added");
        FiguredBass x = Rows.rowOf(12);
        for (int weight : new int[] {0, 2, 9}) {
            Rows.weighAll(x, weight);
            int sum = 0;
            for (int chord = 0; chord < 12; chord++) {
                sum += x.told(chord, 5);
            }
            CHECK.same("count(5) with weights of " + weight, x.count(5), sum);
            CHECK.same("count(5) with weights of " + weight, x.count(5),
                30 * (x.count(1) - x.count(2)) + x.count(3) + weight * x.count(4));
        }
    }

    private static void countOfMinor() {
        CHECK.sentence("14: 6 1 in minor, else 0");
        FiguredBass x = new FiguredBass();
        CHECK.same("count(6)", x.count(6), 0);
        x.setKey(true);
        CHECK.same("count(6), no chord", x.count(6), 1);
        x.chord(0, 0);
        x.chord(0, 0);
        CHECK.same("count(6), two chords", x.count(6), 1);
        x.setKey(false);
        CHECK.same("count(6)", x.count(6), 0);
    }

    private static void countRefusesWhat() {
        CHECK.sentence("14: Throws IndexOutOfBoundsException if what is not 0 to 6");
        for (int size = 0; size <= 12; size += 12) {
            FiguredBass x = Rows.rowOf(size);
            Edges.numbers(CHECK, x, "count(..) of " + size, 0, 6, Rows.NO_INDEX, what -> x.count(what));
        }
    }

    // Promise 15

    private static void pitchOfEachOctave() {
        CHECK.sentence("15: Returns its pitch");
        int[] notes = {0, 6, 7, 13, 14, 20, 21, 27};
        int[] due = {0, 11, 12, 23, 24, 35, 36, 47};
        for (int k = 0; k < notes.length; k++) {
            CHECK.same("pitch(" + notes[k] + ")", new FiguredBass().pitch(notes[k]), due[k]);
        }
    }

    private static void pitchRefusesNotes() {
        CHECK.sentence("15: Throws IllegalArgumentException if note is not 0 to 27");
        for (int size = 0; size <= 12; size += 12) {
            FiguredBass x = Rows.rowOf(size);
            Edges.numbers(CHECK, x, "pitch(..)", 0, 27, Rows.NO_ARGUMENT, note -> x.pitch(note));
            x.setKey(true);
            Edges.numbers(CHECK, x, "pitch(..) in minor", 0, 27, Rows.NO_ARGUMENT, note -> x.pitch(note));
        }
    }

    // Promise 16

    private static void fitsTheRangeOfTheVoice() {
        CHECK.sentence("16: Returns whether it is one of this voice");
        for (int voice = 1; voice <= 3; voice++) {
            for (int edge : new int[] {Rows.LOWEST[voice], Rows.HIGHEST[voice]}) {
                for (int note = edge - 2; note <= edge + 2; note++) {
                    // The note is as the bass, or some octaves away: it belongs to the chord.
                    FiguredBass x = new FiguredBass();
                    x.chord(note % 7, 0);
                    CHECK.same("bass " + note % 7 + ", fits(0, " + voice + ", " + note + ")",
                        x.fits(0, voice, note), note >= Rows.LOWEST[voice] && note <= Rows.HIGHEST[voice]);
                }
            }
        }
        for (int note = 0; note <= 27; note += 27) {
            FiguredBass x = new FiguredBass();
            x.chord(note % 7, 0);
            for (int voice = 1; voice <= 3; voice++) {
                CHECK.same("fits(0, " + voice + ", " + note + ")", x.fits(0, voice, note), false);
            }
        }
    }

    private static void fitsTheChord() {
        CHECK.sentence("16: and belongs to the chord");
        FiguredBass x = new FiguredBass();
        x.chord(0, 0);
        x.chord(1, 0);
        x.chord(0, 1);
        boolean[][] due = {
            {false, true, false, true, false, false, true},
            {true, false, true, false, true, false, false},
            {false, true, false, false, true, false, true},
        };
        for (int chord = 0; chord < 3; chord++) {
            for (int note = 8; note <= 14; note++) {
                for (int voice = 1; voice <= 2; voice++) {
                    CHECK.same("fits(" + chord + ", " + voice + ", " + note + ")",
                        x.fits(chord, voice, note), due[chord][note - 8]);
                }
            }
        }
        // What the chord has does not matter, nor the notes of the other voices.
        boolean before = x.fits(0, 1, 11);
        Rows.putAll(x, 0, 14, 8, 12);
        CHECK.same("fits(0, 1, 11)", x.fits(0, 1, 11), before);
        CHECK.same("fits(0, 1, 7), lower than the bass 13", fitsAboveThirteen(7), false);
        CHECK.same("fits(0, 1, 6), lower than the bass 13", fitsAboveThirteen(6), true);
    }

    private static boolean fitsAboveThirteen(int note) {
        FiguredBass x = new FiguredBass();
        x.chord(13, 0);
        return x.fits(0, 1, note);
    }

    private static void fitsRefusesChords() {
        CHECK.sentence("16: Throws IndexOutOfBoundsException if there is no such chord");
        Edges.chords(CHECK, "fits(.., 1, 7)", (x, chord) -> x.fits(chord, 1, 7));
        Edges.chords(CHECK, "fits(.., 3, 27)", (x, chord) -> x.fits(chord, 3, 27));
    }

    private static void fitsRefusesVoices() {
        CHECK.sentence("16: Throws IndexOutOfBoundsException if voice is not 1 to 3");
        FiguredBass x = Rows.rowOf(2);
        Edges.numbers(CHECK, x, "fits(1, .., 13)", 1, 3, Rows.NO_INDEX, voice -> x.fits(1, voice, 13));
        Edges.numbers(CHECK, x, "fits(0, .., 0)", 1, 3, Rows.NO_INDEX, voice -> x.fits(0, voice, 0));
    }

    private static void fitsRefusesNotes() {
        CHECK.sentence("16: Throws IllegalArgumentException if note is not 0 to 27");
        FiguredBass x = Rows.rowOf(2);
        for (int voice = 1; voice <= 3; voice++) {
            int v = voice;
            Edges.numbers(CHECK, x, "fits(1, " + v + ", ..)", 0, 27, Rows.NO_ARGUMENT, note -> x.fits(1, v, note));
        }
    }

    private static void fitsNamesTheIndexFirst() {
        CHECK.sentence("16: If several exceptions apply, the one that is named first is thrown");
        FiguredBass x = Rows.rowOf(2);
        CHECK.refused(x, "fits(2, 1, 28)", Rows.NO_INDEX, () -> x.fits(2, 1, 28));
        CHECK.refused(x, "fits(-1, 1, -1)", Rows.NO_INDEX, () -> x.fits(-1, 1, -1));
        CHECK.refused(x, "fits(1, 0, 28)", Rows.NO_INDEX, () -> x.fits(1, 0, 28));
        CHECK.refused(x, "fits(1, 4, -1)", Rows.NO_INDEX, () -> x.fits(1, 4, -1));
        CHECK.refused(x, "fits(1, 1, -1), which is no note here", Rows.NO_ARGUMENT, () -> x.fits(1, 1, -1));
    }

    // Promise 17

    private static void waysOfAllFiguresAndBasses() {
        CHECK.sentence("17: Returns in how many ways notes can be put to its upper voices so that it is right");
        int[][] due = {
            {18, 29, 29, 10, 18, 10}, {29, 29, 29, 14, 29, 14}, {25, 25, 30, 14, 30, 14}, {30, 35, 35, 14, 30, 17},
            {35, 25, 25, 14, 35, 14}, {29, 29, 27, 10, 27, 10}, {27, 27, 18, 9, 18, 9}, {18, 19, 19, 7, 18, 7},
            {18, 18, 18, 6, 18, 6}, {16, 16, 12, 5, 12, 6}, {12, 10, 10, 3, 12, 4}, {10, 6, 6, 2, 10, 2},
            {6, 6, 2, 1, 2, 1}, {2, 2, 1, 0, 1, 0},
        };
        for (int bass = 0; bass < 14; bass++) {
            for (int figure = 0; figure < 6; figure++) {
                FiguredBass x = new FiguredBass();
                x.chord(bass, figure);
                String call = "bass " + bass + ", figure " + figure + ", ways(0)";
                CHECK.same(call, x.ways(0), due[bass][figure]);
                CHECK.same(call + ", as the model counts them", x.ways(0), modelWays(bass, figure));
            }
        }
    }

    private static int modelWays(int bass, int figure) {
        Model m = new Model();
        m.chord(bass, figure);
        return m.ways(0);
    }

    private static void waysWhateverItHas() {
        CHECK.sentence("17: whatever it has");
        FiguredBass x = Rows.rowOf(12);
        for (int chord = 0; chord < 12; chord += 11) {
            x.setBass(chord, 12);
            x.setFigure(chord, 3);
            CHECK.same("ways(" + chord + ")", x.ways(chord), 1);
            Rows.putAll(x, chord, -1, -1, -1);
            CHECK.same("ways(" + chord + ") without notes", x.ways(chord), 1);
            Rows.putAll(x, chord, 14, 16, 18);
            CHECK.same("ways(" + chord + ") with the notes by which it is right", x.ways(chord), 1);
            x.setBass(chord, 13);
            CHECK.same("ways(" + chord + "), one bass higher", x.ways(chord), 0);
            x.setBass(chord, 11);
            CHECK.same("ways(" + chord + "), one bass lower", x.ways(chord), 2);
        }
    }

    private static void waysRefusesChords() {
        CHECK.sentence("17: Throws IndexOutOfBoundsException if there is no such chord");
        Edges.chords(CHECK, "ways(..)", (x, chord) -> x.ways(chord));
    }

    private static void tellingChangesNothing() {
        CHECK.sentence("11 to 17: what there is, is told, and stays as it is");
        for (int size = 1; size <= 12; size += 11) {
            FiguredBass x = Rows.rowOf(size);
            int last = size - 1;
            x.put(last, 2, -1);
            CHECK.changesNothing(x, "note", () -> x.note(last, 2));
            CHECK.changesNothing(x, "told", () -> x.told(last, 5));
            CHECK.changesNothing(x, "faults", () -> x.faults(last, 7));
            CHECK.changesNothing(x, "count", () -> x.count(5));
            CHECK.changesNothing(x, "pitch", () -> x.pitch(27));
            CHECK.changesNothing(x, "fits", () -> x.fits(last, 3, 22));
            CHECK.changesNothing(x, "ways", () -> x.ways(last));
        }
    }

    private static void countsAre(FiguredBass x, int... due) {
        for (int what = 0; what < due.length; what++) {
            CHECK.same("count(" + what + ")", x.count(what), due[what]);
        }
    }
}
