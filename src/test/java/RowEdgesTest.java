/** Promises 1 to 10: each sentence that names an edge, at the edge and on either side of it. */
public final class RowEdgesTest {
    private static final Check CHECK = new Check();

    public static void main(String[] args) {
        newObjectIsEmpty();
        newObjectIsInMajor();
        objectsAreApart();
        chordReturnsItsNumber();
        chordRefusesBasses();
        chordRefusesFigures();
        chordRefusesTheThirteenth();
        chordNamesTheArgumentFirst();
        chordBehindDropIsNew();
        setBassReturnsThatBefore();
        setBassIsFromNowOn();
        setBassRefusesChords();
        setBassRefusesBasses();
        setBassNamesTheChordFirst();
        setFigureReturnsThatBefore();
        setFigureIsFromNowOn();
        setFigureRefusesChords();
        setFigureRefusesFigures();
        setFigureNamesTheChordFirst();
        putReturnsThatBefore();
        putTakesNotesThatDoNotBelong();
        putRefusesChords();
        putRefusesVoices();
        putRefusesNotes();
        putNamesTheIndexFirst();
        dropReturnsHowMany();
        dropTakesTheLast();
        dropRefusesIfThereIsNone();
        setKeyReturnsWhetherItWas();
        setWeightReturnsThatBefore();
        setWeightRefusesFaults();
        setWeightRefusesWeights();
        setWeightNamesTheFaultFirst();
        leadReturnsItsCost();
        leadRefusesChords();
        leadRefusesWithoutWays();
        leadAllOfNone();
        leadAllReturnsHowMany();
        leadAllLeavesThoseThatCannotBeLed();
        leadAllGoesFromTheFirstOn();
        CHECK.finish();
    }

    // Promise 1

    private static void newObjectIsEmpty() {
        CHECK.sentence("1: Creates an empty row");
        FiguredBass x = new FiguredBass();
        for (int what = 0; what <= 6; what++) {
            CHECK.same("count(" + what + ")", x.count(what), 0);
        }
        CHECK.same("mean()", x.mean(), 0.0);
        CHECK.same("leadAll()", x.leadAll(), 0);
        CHECK.refused(x, "note(0, 0)", Rows.NO_INDEX, () -> x.note(0, 0));
        CHECK.refused(x, "lead(0)", Rows.NO_INDEX, () -> x.lead(0));
        CHECK.refused(x, "drop()", Rows.NO_STATE, x::drop);
        CHECK.same("chord(5, 1)", x.chord(5, 1), 0);
    }

    private static void newObjectIsInMajor() {
        CHECK.sentence("1: in major");
        CHECK.same("setKey(true)", new FiguredBass().setKey(true), false);
        CHECK.same("setKey(false)", new FiguredBass().setKey(false), false);
        CHECK.same("count(6)", new FiguredBass().count(6), 0);
        CHECK.same("pitch(2)", new FiguredBass().pitch(2), 4);
    }

    private static void objectsAreApart() {
        CHECK.sentence("1: Creates an empty row in major, whatever others hold");
        FiguredBass full = Rows.rowOf(12);
        full.setKey(true);
        Rows.weighAll(full, 9);
        long before = full.digest();
        FiguredBass x = new FiguredBass();
        CHECK.same("count(0)", x.count(0), 0);
        CHECK.same("count(6)", x.count(6), 0);
        CHECK.same("setWeight(0, 1)", x.setWeight(0, 1), 2);
        CHECK.same("chord(0, 0)", x.chord(0, 0), 0);
        CHECK.same("note(0, 1)", x.note(0, 1), -1);
        CHECK.same("ways(0)", x.ways(0), 18);
        CHECK.same("digest() of the other", full.digest(), before);
    }

    // Promise 2

    private static void chordReturnsItsNumber() {
        CHECK.sentence("2: Adds a chord to the end of the row. Returns its number");
        FiguredBass x = new FiguredBass();
        for (int chord = 0; chord < 12; chord++) {
            CHECK.same("chord(" + chord + ", 5)", x.chord(chord, 5), chord);
            CHECK.same("count(0)", x.count(0), chord + 1);
        }
        for (int chord = 0; chord < 12; chord++) {
            CHECK.same("note(" + chord + ", 0)", x.note(chord, 0), chord);
        }
        x.drop();
        CHECK.same("chord(0, 0) behind drop()", x.chord(0, 0), 11);
        x.drop();
        x.drop();
        CHECK.same("chord(0, 0) behind two of them", x.chord(0, 0), 10);
    }

    private static void chordRefusesBasses() {
        CHECK.sentence("2: Throws IllegalArgumentException if bass is not 0 to 13");
        FiguredBass x = Rows.rowOf(2);
        CHECK.refused(x, "chord(-1, 0)", Rows.NO_ARGUMENT, () -> x.chord(-1, 0));
        CHECK.same("chord(0, 0)", x.chord(0, 0), 2);
        CHECK.same("chord(1, 0)", x.chord(1, 0), 3);
        CHECK.same("chord(12, 0)", x.chord(12, 0), 4);
        CHECK.same("chord(13, 0)", x.chord(13, 0), 5);
        CHECK.refused(x, "chord(14, 0)", Rows.NO_ARGUMENT, () -> x.chord(14, 0));
        for (int wrong : Rows.NO_INTS) {
            CHECK.refused(x, "chord(" + wrong + ", 0)", Rows.NO_ARGUMENT, () -> x.chord(wrong, 0));
        }
        CHECK.same("count(0)", x.count(0), 6);
    }

    private static void chordRefusesFigures() {
        CHECK.sentence("2: Throws IllegalArgumentException if figure is not 0 to 5");
        FiguredBass x = Rows.rowOf(2);
        CHECK.refused(x, "chord(0, -1)", Rows.NO_ARGUMENT, () -> x.chord(0, -1));
        CHECK.same("chord(0, 0)", x.chord(0, 0), 2);
        CHECK.same("chord(0, 1)", x.chord(0, 1), 3);
        CHECK.same("chord(0, 4)", x.chord(0, 4), 4);
        CHECK.same("chord(0, 5)", x.chord(0, 5), 5);
        CHECK.refused(x, "chord(0, 6)", Rows.NO_ARGUMENT, () -> x.chord(0, 6));
        for (int wrong : Rows.NO_INTS) {
            CHECK.refused(x, "chord(0, " + wrong + ")", Rows.NO_ARGUMENT, () -> x.chord(0, wrong));
        }
        CHECK.same("count(0)", x.count(0), 6);
    }

    private static void chordRefusesTheThirteenth() {
        CHECK.sentence("2: Throws IllegalStateException if there are 12");
        FiguredBass x = Rows.rowOf(11);
        CHECK.same("chord(0, 0) as the 12th", x.chord(0, 0), 11);
        CHECK.refused(x, "chord(0, 0) as the 13th", Rows.NO_STATE, () -> x.chord(0, 0));
        CHECK.refused(x, "chord(13, 5) as the 13th", Rows.NO_STATE, () -> x.chord(13, 5));
        CHECK.same("count(0)", x.count(0), 12);
        CHECK.same("drop()", x.drop(), 11);
        CHECK.same("chord(13, 5) as the 12th again", x.chord(13, 5), 11);
        CHECK.refused(x, "chord(13, 5) as the 13th again", Rows.NO_STATE, () -> x.chord(13, 5));
    }

    private static void chordNamesTheArgumentFirst() {
        CHECK.sentence("2: If several exceptions apply, the one that is named first is thrown");
        FiguredBass x = Rows.rowOf(12);
        CHECK.refused(x, "chord(-1, 0) as the 13th", Rows.NO_ARGUMENT, () -> x.chord(-1, 0));
        CHECK.refused(x, "chord(14, 0) as the 13th", Rows.NO_ARGUMENT, () -> x.chord(14, 0));
        CHECK.refused(x, "chord(0, -1) as the 13th", Rows.NO_ARGUMENT, () -> x.chord(0, -1));
        CHECK.refused(x, "chord(0, 6) as the 13th", Rows.NO_ARGUMENT, () -> x.chord(0, 6));
        CHECK.refused(x, "chord(14, 6) as the 13th", Rows.NO_ARGUMENT, () -> x.chord(14, 6));
        CHECK.refused(x, "chord(13, 5) as the 13th", Rows.NO_STATE, () -> x.chord(13, 5));
    }

    private static void chordBehindDropIsNew() {
        CHECK.sentence("2: Adds a chord, with no notes at first, where one was dropped, too");
        FiguredBass x = Rows.rowOf(12);
        x.drop();
        x.chord(4, 2);
        CHECK.same("note(11, 0)", x.note(11, 0), 4);
        CHECK.same("told(11, 0)", x.told(11, 0), 2);
        for (int voice = 1; voice <= 3; voice++) {
            CHECK.same("note(11, " + voice + ")", x.note(11, voice), -1);
        }
    }

    // Promise 3

    private static void setBassReturnsThatBefore() {
        CHECK.sentence("3: Returns that before");
        FiguredBass x = new FiguredBass();
        x.chord(5, 0);
        CHECK.same("setBass(0, 0)", x.setBass(0, 0), 5);
        CHECK.same("setBass(0, 13)", x.setBass(0, 13), 0);
        CHECK.same("setBass(0, 13)", x.setBass(0, 13), 13);
        CHECK.same("setBass(0, 6)", x.setBass(0, 6), 13);
        CHECK.refused(x, "setBass(0, 14)", Rows.NO_ARGUMENT, () -> x.setBass(0, 14));
        CHECK.same("setBass(0, 1) behind a refused one", x.setBass(0, 1), 6);
    }

    private static void setBassIsFromNowOn() {
        CHECK.sentence("3: its bass from now on");
        FiguredBass x = Rows.someRow();
        x.setBass(1, 9);
        CHECK.same("note(0, 0), one ahead", x.note(0, 0), 0);
        CHECK.same("note(1, 0)", x.note(1, 0), 9);
        CHECK.same("note(2, 0), one behind", x.note(2, 0), 4);
        // Notes stay, though they belong no more, and the tenor is lower than the bass now.
        CHECK.same("note(1, 1)", x.note(1, 1), 8);
        CHECK.same("note(1, 2)", x.note(1, 2), 12);
        CHECK.same("note(1, 3)", x.note(1, 3), 17);
        CHECK.same("told(1, 0)", x.told(1, 0), 0);
        CHECK.same("told(1, 1)", x.told(1, 1), 2);
        CHECK.same("told(1, 3)", x.told(1, 3), 0);
    }

    private static void setBassRefusesChords() {
        CHECK.sentence("3: Throws IndexOutOfBoundsException if there is no such chord");
        Edges.chords(CHECK, "setBass(.., 5)", (x, chord) -> x.setBass(chord, 5));
    }

    private static void setBassRefusesBasses() {
        CHECK.sentence("3: Throws IllegalArgumentException if bass is not 0 to 13");
        FiguredBass x = Rows.rowOf(2);
        Edges.numbers(CHECK, x, "setBass(1, ..)", 0, 13, Rows.NO_ARGUMENT, bass -> x.setBass(1, bass));
        CHECK.same("note(1, 0), the last one taken", x.note(1, 0), 13);
    }

    private static void setBassNamesTheChordFirst() {
        CHECK.sentence("3: If several exceptions apply, the one that is named first is thrown");
        FiguredBass x = Rows.rowOf(2);
        CHECK.refused(x, "setBass(2, 14)", Rows.NO_INDEX, () -> x.setBass(2, 14));
        CHECK.refused(x, "setBass(-1, -1)", Rows.NO_INDEX, () -> x.setBass(-1, -1));
        CHECK.refused(x, "setBass(1, 14)", Rows.NO_ARGUMENT, () -> x.setBass(1, 14));
    }

    // Promise 4

    private static void setFigureReturnsThatBefore() {
        CHECK.sentence("4: Returns that before");
        FiguredBass x = new FiguredBass();
        x.chord(5, 2);
        CHECK.same("setFigure(0, 0)", x.setFigure(0, 0), 2);
        CHECK.same("setFigure(0, 5)", x.setFigure(0, 5), 0);
        CHECK.same("setFigure(0, 5)", x.setFigure(0, 5), 5);
        CHECK.same("setFigure(0, 3)", x.setFigure(0, 3), 5);
        CHECK.refused(x, "setFigure(0, 6)", Rows.NO_ARGUMENT, () -> x.setFigure(0, 6));
        CHECK.same("setFigure(0, 1) behind a refused one", x.setFigure(0, 1), 3);
    }

    private static void setFigureIsFromNowOn() {
        CHECK.sentence("4: its figure from now on");
        FiguredBass x = Rows.someRow();
        x.setFigure(1, 1);
        CHECK.same("told(0, 0), one ahead", x.told(0, 0), 0);
        CHECK.same("told(1, 0)", x.told(1, 0), 1);
        CHECK.same("told(2, 0), one behind", x.told(2, 0), 3);
        CHECK.same("told(1, 3)", x.told(1, 3), 0);
        CHECK.same("note(1, 0)", x.note(1, 0), 1);
        CHECK.same("note(1, 2)", x.note(1, 2), 12);
        x.setFigure(1, 0);
        CHECK.same("told(1, 3), as it was", x.told(1, 3), 1);
    }

    private static void setFigureRefusesChords() {
        CHECK.sentence("4: Throws IndexOutOfBoundsException if there is no such chord");
        Edges.chords(CHECK, "setFigure(.., 5)", (x, chord) -> x.setFigure(chord, 5));
    }

    private static void setFigureRefusesFigures() {
        CHECK.sentence("4: Throws IllegalArgumentException if figure is not 0 to 5");
        FiguredBass x = Rows.rowOf(2);
        Edges.numbers(CHECK, x, "setFigure(1, ..)", 0, 5, Rows.NO_ARGUMENT, figure -> x.setFigure(1, figure));
        CHECK.same("told(1, 0), the last one taken", x.told(1, 0), 5);
    }

    private static void setFigureNamesTheChordFirst() {
        CHECK.sentence("4: If several exceptions apply, the one that is named first is thrown");
        FiguredBass x = Rows.rowOf(2);
        CHECK.refused(x, "setFigure(2, 6)", Rows.NO_INDEX, () -> x.setFigure(2, 6));
        CHECK.refused(x, "setFigure(-1, -1)", Rows.NO_INDEX, () -> x.setFigure(-1, -1));
        CHECK.refused(x, "setFigure(1, 6)", Rows.NO_ARGUMENT, () -> x.setFigure(1, 6));
    }

    // Promise 5

    private static void putReturnsThatBefore() {
        CHECK.sentence("5: Returns that before, -1 for none");
        FiguredBass x = new FiguredBass();
        x.chord(0, 0);
        for (int voice = 1; voice <= 3; voice++) {
            CHECK.same("put of -1", x.put(0, voice, -1), -1);
            CHECK.same("put of the lowest", x.put(0, voice, Rows.LOWEST[voice]), -1);
            CHECK.same("put of the highest", x.put(0, voice, Rows.HIGHEST[voice]), Rows.LOWEST[voice]);
            CHECK.same("put of the highest", x.put(0, voice, Rows.HIGHEST[voice]), Rows.HIGHEST[voice]);
            CHECK.same("put of -1", x.put(0, voice, -1), Rows.HIGHEST[voice]);
            CHECK.same("note", x.note(0, voice), -1);
            CHECK.same("put of 13", x.put(0, voice, 13), -1);
        }
    }

    private static void putTakesNotesThatDoNotBelong() {
        CHECK.sentence("5: whether it belongs to it or not");
        for (int voice = 1; voice <= 3; voice++) {
            FiguredBass x = new FiguredBass();
            x.chord(0, 0);
            for (int note = Rows.LOWEST[voice]; note <= Rows.HIGHEST[voice]; note++) {
                CHECK.same("put", x.put(0, voice, note), note == Rows.LOWEST[voice] ? -1 : note - 1);
                CHECK.same("note(0, " + voice + ")", x.note(0, voice), note);
            }
        }
    }

    private static void putRefusesChords() {
        CHECK.sentence("5: Throws IndexOutOfBoundsException if there is no such chord");
        Edges.chords(CHECK, "put(.., 1, 7)", (x, chord) -> x.put(chord, 1, 7));
        Edges.chords(CHECK, "put(.., 3, -1)", (x, chord) -> x.put(chord, 3, -1));
    }

    private static void putRefusesVoices() {
        CHECK.sentence("5: Throws IndexOutOfBoundsException if voice is not 1 to 3");
        FiguredBass x = Rows.rowOf(2);
        // 13 is a note of all four voices.
        Edges.numbers(CHECK, x, "put(1, .., 13)", 1, 3, Rows.NO_INDEX, voice -> x.put(1, voice, 13));
        Edges.numbers(CHECK, x, "put(1, .., -1)", 1, 3, Rows.NO_INDEX, voice -> x.put(1, voice, -1));
        CHECK.same("note(1, 0)", x.note(1, 0), 1);
    }

    private static void putRefusesNotes() {
        CHECK.sentence("5: Throws IllegalArgumentException if note is not -1, and none of this voice");
        for (int voice = 1; voice <= 3; voice++) {
            FiguredBass x = Rows.rowOf(2);
            int v = voice;
            Edges.numbers(CHECK, x, "put(1, " + v + ", ..)", Rows.LOWEST[v], Rows.HIGHEST[v], Rows.NO_ARGUMENT,
                note -> x.put(1, v, note));
            for (int wrong : new int[] {-2, 0, 1, 4, 23, 27, 28}) {
                CHECK.refused(x, "put(1, " + v + ", " + wrong + ")", Rows.NO_ARGUMENT, () -> x.put(1, v, wrong));
            }
            CHECK.same("put(1, " + v + ", -1)", x.put(1, v, -1), Rows.HIGHEST[v]);
            CHECK.refused(x, "put(1, " + v + ", -2)", Rows.NO_ARGUMENT, () -> x.put(1, v, -2));
        }
    }

    private static void putNamesTheIndexFirst() {
        CHECK.sentence("5: If several exceptions apply, the one that is named first is thrown");
        FiguredBass x = Rows.rowOf(2);
        CHECK.refused(x, "put(2, 1, 15)", Rows.NO_INDEX, () -> x.put(2, 1, 15));
        CHECK.refused(x, "put(-1, 1, 4)", Rows.NO_INDEX, () -> x.put(-1, 1, 4));
        CHECK.refused(x, "put(1, 0, 14)", Rows.NO_INDEX, () -> x.put(1, 0, 14));
        CHECK.refused(x, "put(1, 4, 23)", Rows.NO_INDEX, () -> x.put(1, 4, 23));
        CHECK.refused(x, "put(2, 4, 23)", Rows.NO_INDEX, () -> x.put(2, 4, 23));
        CHECK.refused(x, "put(1, 1, 15)", Rows.NO_ARGUMENT, () -> x.put(1, 1, 15));
    }

    // Promise 6

    private static void dropReturnsHowMany() {
        CHECK.sentence("6: Returns how many there are then");
        FiguredBass x = Rows.rowOf(12);
        for (int left = 11; left >= 0; left--) {
            CHECK.same("drop()", x.drop(), left);
            CHECK.same("count(0)", x.count(0), left);
        }
    }

    private static void dropTakesTheLast() {
        CHECK.sentence("6: Takes the last chord off the row");
        FiguredBass x = Rows.rowOf(12);
        FiguredBass shorter = Rows.rowOf(11);
        x.drop();
        CHECK.same("digest() behind drop()", x.digest(), shorter.digest());
        CHECK.same("note(10, 0)", x.note(10, 0), 10);
        CHECK.refused(x, "note(11, 0)", Rows.NO_INDEX, () -> x.note(11, 0));
        // Its cost, and those of the chord it stood behind, are gone with it.
        CHECK.same("count(5)", x.count(5), shorter.count(5));
        CHECK.same("best(10)", x.best(10), shorter.best(10));
        CHECK.same("advise(10)", x.advise(10), shorter.advise(10));
    }

    private static void dropRefusesIfThereIsNone() {
        CHECK.sentence("6: Throws IllegalStateException if there is none");
        FiguredBass x = new FiguredBass();
        CHECK.refused(x, "drop() of a new row", Rows.NO_STATE, x::drop);
        x.chord(0, 0);
        CHECK.same("drop() of one", x.drop(), 0);
        CHECK.refused(x, "drop() of none", Rows.NO_STATE, x::drop);
        CHECK.refused(x, "drop() of none again", Rows.NO_STATE, x::drop);
        CHECK.same("chord(0, 0) behind it", x.chord(0, 0), 0);
    }

    // Promise 7

    private static void setKeyReturnsWhetherItWas() {
        CHECK.sentence("7: Returns whether it was");
        FiguredBass x = new FiguredBass();
        boolean[] keys = {false, true, true, false, false, true, false};
        boolean was = false;
        for (boolean minor : keys) {
            CHECK.same("setKey(" + minor + ")", x.setKey(minor), was);
            CHECK.same("count(6)", x.count(6), minor ? 1 : 0);
            CHECK.same("pitch(2)", x.pitch(2), minor ? 3 : 4);
            was = minor;
        }
    }

    // Promise 8

    private static void setWeightReturnsThatBefore() {
        CHECK.sentence("8: Returns that before");
        FiguredBass x = new FiguredBass();
        for (int fault = 0; fault < 8; fault++) {
            CHECK.same("setWeight(" + fault + ", 0)", x.setWeight(fault, 0), 2);
            CHECK.same("setWeight(" + fault + ", 9)", x.setWeight(fault, 9), 0);
            CHECK.same("setWeight(" + fault + ", 9)", x.setWeight(fault, 9), 9);
            CHECK.same("setWeight(" + fault + ", fault)", x.setWeight(fault, fault), 9);
        }
        for (int fault = 0; fault < 8; fault++) {
            CHECK.same("setWeight(" + fault + ", 2)", x.setWeight(fault, 2), fault);
        }
    }

    private static void setWeightRefusesFaults() {
        CHECK.sentence("8: Throws IndexOutOfBoundsException if fault is not 0 to 7");
        FiguredBass x = Rows.rowOf(2);
        Edges.numbers(CHECK, x, "setWeight(.., 3)", 0, 7, Rows.NO_INDEX, fault -> x.setWeight(fault, 3));
        for (int fault = 0; fault < 8; fault++) {
            CHECK.same("setWeight(" + fault + ", 2)", x.setWeight(fault, 2), 3);
        }
    }

    private static void setWeightRefusesWeights() {
        CHECK.sentence("8: Throws IllegalArgumentException if weight is not 0 to 9");
        FiguredBass x = Rows.rowOf(2);
        for (int fault = 0; fault < 8; fault += 7) {
            int f = fault;
            Edges.numbers(CHECK, x, "setWeight(" + f + ", ..)", 0, 9, Rows.NO_ARGUMENT,
                weight -> x.setWeight(f, weight));
            CHECK.same("setWeight(" + f + ", 2), the last one taken", x.setWeight(f, 2), 9);
        }
    }

    private static void setWeightNamesTheFaultFirst() {
        CHECK.sentence("8: If several exceptions apply, the one that is named first is thrown");
        FiguredBass x = Rows.rowOf(2);
        CHECK.refused(x, "setWeight(8, 10)", Rows.NO_INDEX, () -> x.setWeight(8, 10));
        CHECK.refused(x, "setWeight(-1, -1)", Rows.NO_INDEX, () -> x.setWeight(-1, -1));
        CHECK.refused(x, "setWeight(7, 10)", Rows.NO_ARGUMENT, () -> x.setWeight(7, 10));
        CHECK.refused(x, "setWeight(0, -1)", Rows.NO_ARGUMENT, () -> x.setWeight(0, -1));
    }

    // Promise 9

    private static void leadReturnsItsCost() {
        CHECK.sentence("9: Returns its cost then");
        FiguredBass x = Rows.two(0, Rows.notes(0, 9, 11, 14), 0, Rows.notes(0, 9, 11, 15));
        // The next chord, which is not right, costs 30 and more; this is not told.
        CHECK.same("lead(0)", x.lead(0), 0);
        CHECK.same("told(0, 5)", x.told(0, 5), 0);
        CHECK.same("told(1, 5)", x.told(1, 5), 31);
        CHECK.same("lead(1)", x.lead(1), 0);
        CHECK.same("told(1, 5)", x.told(1, 5), 0);
        x.setBass(1, 1);
        int cost = x.lead(1);
        CHECK.same("told(1, 5) behind lead(1)", x.told(1, 5), cost);
        CHECK.same("told(1, 4) behind lead(1)", x.told(1, 4) > 0, true);
    }

    private static void leadRefusesChords() {
        CHECK.sentence("9: Throws IndexOutOfBoundsException if there is no such chord");
        Edges.chords(CHECK, "lead(..)", (x, chord) -> x.lead(chord));
    }

    private static void leadRefusesWithoutWays() {
        CHECK.sentence("9: Throws IllegalStateException if there are no notes by which it is right");
        int[] leads = {1, 1, 1, 0, 1, 0};
        FiguredBass x = new FiguredBass();
        x.chord(13, 0);
        for (int figure = 0; figure < 6; figure++) {
            x.setFigure(0, figure);
            if (leads[figure] == 1) {
                CHECK.same("lead(0) with the figure " + figure, x.lead(0), 0);
            } else {
                CHECK.refused(x, "lead(0) with the figure " + figure, Rows.NO_STATE, () -> x.lead(0));
            }
            CHECK.same("note(0, 1), also behind a refused one", x.note(0, 1), 13);
        }
        for (int figure = 3; figure <= 5; figure += 2) {
            FiguredBass y = new FiguredBass();
            y.chord(12, figure);
            CHECK.same("lead(0) with the bass 12, just one way", y.lead(0), 0);
            CHECK.same("note(0, 1)", y.note(0, 1), 14);
            y.setBass(0, 13);
            CHECK.refused(y, "lead(0) with the bass 13, no way", Rows.NO_STATE, () -> y.lead(0));
            CHECK.refused(y, "lead(1), which is not there", Rows.NO_INDEX, () -> y.lead(1));
        }
    }

    // Promise 10

    private static void leadAllOfNone() {
        CHECK.sentence("10: Leads all chords, and none of an empty row");
        FiguredBass x = new FiguredBass();
        CHECK.same("leadAll() of none", x.leadAll(), 0);
        x.chord(0, 0);
        CHECK.same("leadAll() of one", x.leadAll(), 1);
        CHECK.same("told(0, 3)", x.told(0, 3), 1);
        x.drop();
        CHECK.same("leadAll() of none again", x.leadAll(), 0);
    }

    private static void leadAllReturnsHowMany() {
        CHECK.sentence("10: Returns how many of them are led");
        FiguredBass x = new FiguredBass();
        for (int chord = 0; chord < 12; chord++) {
            x.chord(13, 3);
        }
        CHECK.same("leadAll(), none of 12", x.leadAll(), 0);
        CHECK.same("count(1)", x.count(1), 0);
        for (int chord = 0; chord < 12; chord++) {
            x.setBass(chord, 12);
            CHECK.same("leadAll(), some of 12", x.leadAll(), chord + 1);
            CHECK.same("count(2)", x.count(2), chord + 1);
        }
    }

    private static void leadAllLeavesThoseThatCannotBeLed() {
        CHECK.sentence("10: those that cannot be led stay as they are");
        FiguredBass x = new FiguredBass();
        x.chord(13, 3);
        Rows.add(x, 13, 5, 14, 8, 22);
        x.chord(0, 0);
        x.put(0, 2, 18);
        x.chord(13, 3);
        x.put(3, 3, 12);
        CHECK.same("leadAll()", x.leadAll(), 1);
        CHECK.notesAre(x, 0, -1, 18, -1);
        CHECK.notesAre(x, 1, 14, 8, 22);
        CHECK.same("told(2, 3)", x.told(2, 3), 1);
        CHECK.notesAre(x, 3, -1, -1, 12);
    }

    private static void leadAllGoesFromTheFirstOn() {
        CHECK.sentence("10: from 0 on, each as the row is then (the next one not led yet)");
        int[] bass = {0, 5, 1, 4, 7, 2, 9, 3, 11, 6, 4, 0};
        FiguredBass x = new FiguredBass();
        FiguredBass byHand = new FiguredBass();
        for (int chord = 0; chord < 12; chord++) {
            Rows.add(x, bass[chord], chord % 6, 5 + chord % 10, 18 - chord % 11, 12 + chord % 11);
            Rows.add(byHand, bass[chord], chord % 6, 5 + chord % 10, 18 - chord % 11, 12 + chord % 11);
        }
        CHECK.same("leadAll()", x.leadAll(), 12);
        for (int chord = 0; chord < 12; chord++) {
            byHand.lead(chord);
        }
        CHECK.same("digest() behind leadAll(), and behind lead() of each", x.digest(), byHand.digest());
        // Of two chords the first one is led by the notes that the next one has, and this one by those of the first.
        FiguredBass y = Rows.two(0, Rows.notes(0, 7, 9, 18), 0, Rows.notes(0, 9, 11, 14));
        CHECK.same("leadAll()", y.leadAll(), 2);
        CHECK.notesAre(y, 0, 9, 11, 14);
        CHECK.notesAre(y, 1, 9, 11, 14);
    }
}
