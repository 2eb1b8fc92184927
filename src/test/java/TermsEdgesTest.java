/** The sentences under 'Terms', but for the faults: each at its edges, and on either side of them. */
public final class TermsEdgesTest {
    private static final Check CHECK = new Check();

    public static void main(String[] args) {
        degreesWrap();
        pitchesWrap();
        lowestNotesOfTheVoices();
        highestNotesOfTheVoices();
        atFirst();
        setWithAllThreeNotes();
        stepsOfTheFigures();
        stepsBelowTheBass();
        rightIfSet();
        rightIfAllBelong();
        rightIfNoVoiceIsLower();
        rightIfEachStepIsThere();
        weightsAtFirst();
        weightsCount();
        costIfNotSet();
        costIfNotRight();
        costOfSteps();
        leadingCountsTheNextChord();
        leadingAtTheEndOfTheRow();
        ledWithTheLowestTenor();
        ledWithTheLowestAlto();
        ledWithTheLowestSoprano();
        notesItHadDoNotMatter();
        exceptionsChangeNothing();
        callsOfOneObject();
        CHECK.finish();
    }

    private static void degreesWrap() {
        CHECK.sentence("Terms: the degree of a note is its remainder by 7");
        int[] due = {0, 1, 2, 3, 4, 5, 6, 0, 1, 2, 3, 4, 5, 6};
        FiguredBass x = new FiguredBass();
        x.chord(0, 0);
        for (int bass = 0; bass < due.length; bass++) {
            x.setBass(0, bass);
            CHECK.same("told(0, 1) with the bass " + bass, x.told(0, 1), due[bass]);
        }
    }

    private static void pitchesWrap() {
        CHECK.sentence("Terms: Its pitch is 12 * (note / 7), and a number by its degree, "
            + "in major (at first), or in minor");
        int[] notes = {0, 1, 6, 7, 8, 13, 14, 15, 20, 21, 22, 26, 27};
        int[] major = {0, 2, 11, 12, 14, 23, 24, 26, 35, 36, 38, 45, 47};
        int[] minor = {0, 2, 11, 12, 14, 23, 24, 26, 35, 36, 38, 44, 47};
        FiguredBass x = new FiguredBass();
        for (int k = 0; k < notes.length; k++) {
            x.setKey(false);
            CHECK.same("pitch(" + notes[k] + ") in major", x.pitch(notes[k]), major[k]);
            x.setKey(true);
            CHECK.same("pitch(" + notes[k] + ") in minor", x.pitch(notes[k]), minor[k]);
        }
        CHECK.same("pitch(2), the degree 2, in minor", x.pitch(2), 3);
        CHECK.same("pitch(5), the degree 5, in minor", x.pitch(5), 8);
        CHECK.same("pitch(2) at first", new FiguredBass().pitch(2), 4);
        CHECK.same("pitch(5) at first", new FiguredBass().pitch(5), 9);
    }

    private static void lowestNotesOfTheVoices() {
        CHECK.sentence("Terms: The tenor has notes of 5 to 14, the alto of 8 to 18, the soprano of 12 to 22");
        FiguredBass x = new FiguredBass();
        x.chord(3, 1);
        x.lead(0);
        CHECK.notesAre(x, 0, 5, 8, 12);
        // One step down, 4, 7 and 11 would be right: but they are none of these voices.
        x.setBass(0, 2);
        x.lead(0);
        CHECK.notesAre(x, 0, 7, 9, 18);
        FiguredBass y = new FiguredBass();
        y.chord(0, 0);
        y.lead(0);
        // The soprano 11 would be right, and lower.
        CHECK.notesAre(y, 0, 7, 9, 18);
    }

    private static void highestNotesOfTheVoices() {
        CHECK.sentence("Terms: The tenor has notes of 5 to 14, the alto of 8 to 18, the soprano of 12 to 22");
        FiguredBass x = new FiguredBass();
        Rows.weighAll(x, 0);
        Rows.add(x, 4, 4, 14, 18, 22);
        x.chord(4, 4);
        CHECK.same("told(0, 3) of the highest notes", x.told(0, 3), 1);
        CHECK.same("lead(1), all as high", x.lead(1), 0);
        CHECK.notesAre(x, 1, 14, 18, 22);
        // One step up, 15, 19 and 23 would cost three steps in all, if they were notes of these voices.
        x.setBass(1, 5);
        CHECK.same("lead(1) one step up", x.lead(1), 4);
        CHECK.notesAre(x, 1, 12, 16, 22);
        FiguredBass y = new FiguredBass();
        y.chord(13, 3);
        // The tenor 15 with 17 and 19 or so would be right.
        CHECK.same("ways(0) with no tenor that is high enough", y.ways(0), 0);
    }

    private static void atFirst() {
        CHECK.sentence("Terms: each has a bass, a figure, and for each upper voice a note or none (at first)");
        FiguredBass x = new FiguredBass();
        for (int chord = 0; chord < 12; chord++) {
            x.chord(chord + 2, chord % 6);
            for (int voice = 1; voice <= 3; voice++) {
                CHECK.same("note(" + chord + ", " + voice + ")", x.note(chord, voice), -1);
            }
            CHECK.same("note(" + chord + ", 0)", x.note(chord, 0), chord + 2);
            CHECK.same("told(" + chord + ", 0)", x.told(chord, 0), chord % 6);
            CHECK.same("told(" + chord + ", 2)", x.told(chord, 2), 0);
        }
    }

    private static void setWithAllThreeNotes() {
        CHECK.sentence("Terms: A chord is set, if all three have notes");
        for (int voices = 0; voices < 8; voices++) {
            FiguredBass x = new FiguredBass();
            x.chord(0, 0);
            x.put(0, 1, (voices & 1) == 0 ? -1 : 7);
            x.put(0, 2, (voices & 2) == 0 ? -1 : 11);
            x.put(0, 3, (voices & 4) == 0 ? -1 : 16);
            CHECK.same("told(0, 2) of the voices " + voices, x.told(0, 2), voices == 7 ? 1 : 0);
            CHECK.same("told(0, 3) of the voices " + voices, x.told(0, 3), voices == 7 ? 1 : 0);
            CHECK.same("count(1) of the voices " + voices, x.count(1), voices == 7 ? 1 : 0);
        }
    }

    private static void stepsOfTheFigures() {
        CHECK.sentence("Terms: A note belongs to a chord, if its step is 0, or one of those of the figure");
        // The steps 0 to 6 that belong, of each figure.
        String[] due = {"x.x.x..", "x.x..x.", "x..x.x.", "x.x.x.x", "x..xx..", "x.x.xx."};
        for (int bass = 0; bass < 14; bass++) {
            for (int figure = 0; figure < 6; figure++) {
                FiguredBass x = new FiguredBass();
                x.chord(bass, figure);
                for (int note = 12; note <= 22; note++) {
                    int step = (note + 14 - bass) % 7;
                    CHECK.same("bass " + bass + ", figure " + figure + ", fits(0, 3, " + note + ")",
                        x.fits(0, 3, note), due[figure].charAt(step) == 'x');
                }
            }
        }
    }

    private static void stepsBelowTheBass() {
        CHECK.sentence("Terms: The step of a note is the remainder by 7 of the note less the bass, "
            + "and 7 more, if that is less than 0");
        // From 8 below the bass to 1 above it: the steps 6, 0, 1, 2, 3, 4, 5, 6, 0, 1.
        String[] due = {".x.x.x..x.", ".x.x..x.x.", ".x..x.x.x.", "xx.x.x.xx.", ".x..xx..x.", ".x.x.xx.x."};
        FiguredBass x = new FiguredBass();
        x.chord(13, 0);
        for (int figure = 0; figure < 6; figure++) {
            x.setFigure(0, figure);
            for (int note = 5; note <= 14; note++) {
                CHECK.same("figure " + figure + ", fits(0, 1, " + note + ")",
                    x.fits(0, 1, note), due[figure].charAt(note - 5) == 'x');
            }
        }
    }

    private static void rightIfSet() {
        CHECK.sentence("Terms: A chord is right, if it is set");
        for (int voice = 1; voice <= 3; voice++) {
            FiguredBass x = new FiguredBass();
            // Any two of them give both steps of the figure, with the bass as high as the tenor.
            Rows.add(x, 7, 0, 9, 11, 16);
            CHECK.same("told(0, 3)", x.told(0, 3), 1);
            x.put(0, voice, -1);
            CHECK.same("told(0, 3) without the voice " + voice, x.told(0, 3), 0);
        }
    }

    private static void rightIfAllBelong() {
        CHECK.sentence("Terms: all three notes belong to it");
        right(1, "all belong", 0, 0, 9, 11, 16);
        right(0, "the tenor one lower", 0, 0, 8, 11, 16);
        right(0, "the tenor one higher", 0, 0, 10, 11, 16);
        right(1, "the alto doubled", 0, 0, 9, 9, 18);
        right(0, "the alto one higher", 0, 0, 9, 10, 18);
        right(1, "the soprano on the step 0", 0, 0, 9, 11, 14);
        right(0, "the soprano one lower", 0, 0, 9, 11, 13);
        right(0, "the soprano one higher", 0, 0, 9, 11, 15);
    }

    private static void rightIfNoVoiceIsLower() {
        CHECK.sentence("Terms: no voice is lower than the next lower one (the tenor than the bass, too)");
        right(1, "the tenor as high as the bass", 7, 0, 7, 9, 18);
        right(1, "the tenor higher than the bass", 7, 0, 9, 14, 18);
        right(0, "the tenor just lower than the bass", 10, 0, 9, 12, 14);
        right(1, "the same notes above the bass 3", 3, 0, 10, 12, 14);
        right(0, "the tenor lower than the bass, on its step 0", 13, 0, 6, 15, 17);
        right(1, "the alto as high as the tenor", 0, 0, 9, 9, 18);
        right(0, "the alto lower than the tenor", 0, 0, 11, 9, 18);
        right(1, "the same two the other way round", 0, 0, 9, 11, 18);
        right(0, "the alto one lower than the tenor", 0, 4, 11, 10, 14);
        right(1, "the alto one higher than the tenor", 0, 4, 10, 11, 14);
        right(1, "the soprano as high as the alto", 0, 0, 9, 18, 18);
        right(0, "the soprano one lower than the alto", 0, 4, 7, 18, 17);
        right(1, "the soprano one higher than the alto", 0, 4, 7, 17, 18);
    }

    private static void rightIfEachStepIsThere() {
        CHECK.sentence("Terms: each step of the figure is that of some upper voice (the step 0 need not be)");
        right(1, "the steps 0, 2, 4", 0, 0, 7, 9, 18);
        right(1, "the steps 2, 4, 2, without 0", 0, 0, 9, 11, 16);
        right(0, "the steps 0, 2, 2", 0, 0, 7, 9, 16);
        right(0, "the steps 0, 4, 4", 0, 0, 7, 11, 18);
        right(0, "the steps 0, 0, 2", 0, 0, 7, 14, 16);
        right(0, "the steps 0, 0, 0", 0, 0, 7, 14, 21);
        right(1, "the steps 2, 4, 6", 0, 3, 9, 11, 13);
        right(0, "the steps 2, 4, 0 of the figure 3", 0, 3, 9, 11, 14);
        right(0, "the steps 2, 6, 2 of the figure 3", 0, 3, 9, 13, 16);
        right(0, "the steps 4, 6, 4 of the figure 3", 0, 3, 11, 13, 18);
        right(1, "the steps 2, 4, 5", 0, 5, 9, 11, 12);
        right(0, "the steps 2, 4, 0 of the figure 5", 0, 5, 9, 11, 14);
        // The bass alone gives no step of the figure.
        right(0, "the steps 2, 2, 2", 0, 0, 9, 9, 16);
    }

    private static void right(int due, String text, int bass, int figure, int tenor, int alto, int soprano) {
        FiguredBass x = new FiguredBass();
        Rows.add(x, bass, figure, tenor, alto, soprano);
        CHECK.same(text + ": told(0, 3)", x.told(0, 3), due);
        CHECK.same(text + ": count(2)", x.count(2), due);
        CHECK.same(text + ": told(0, 5)", x.told(0, 5), due == 1 ? 0 : 30);
    }

    private static void weightsAtFirst() {
        CHECK.sentence("Terms: Each kind of fault has one, 0 to 9 (2, at first)");
        for (int fault = 0; fault < 8; fault++) {
            FiguredBass x = new FiguredBass();
            CHECK.same("setWeight(" + fault + ", 0)", x.setWeight(fault, 0), 2);
            CHECK.same("setWeight(" + fault + ", 9)", x.setWeight(fault, 9), 0);
            CHECK.same("setWeight(" + fault + ", 9)", x.setWeight(fault, 9), 9);
        }
    }

    private static void weightsCount() {
        CHECK.sentence("Terms: and each fault times its weight");
        // Two pairs of fifths and one of octaves, and three steps.
        FiguredBass x = Rows.two(0, Rows.notes(0, 7, 11, 16), 0, Rows.notes(1, 8, 12, 17));
        int[] weights = {0, 1, 2, 8, 9};
        for (int fifths : weights) {
            for (int octaves : weights) {
                x.setWeight(0, fifths);
                x.setWeight(1, octaves);
                CHECK.same("told(1, 5) with the weights " + fifths + " and " + octaves,
                    x.told(1, 5), 3 + 2 * fifths + octaves);
            }
        }
    }

    private static void costIfNotSet() {
        CHECK.sentence("Terms: Cost of a chord: 0, if it is not set");
        FiguredBass x = Rows.someRow();
        CHECK.same("told(2, 5), set and not right", x.told(2, 5), 35);
        for (int voice = 1; voice <= 3; voice++) {
            int before = x.put(2, voice, -1);
            CHECK.same("told(2, 5) without the voice " + voice, x.told(2, 5), 0);
            x.put(2, voice, before);
        }
        CHECK.same("told(2, 5), set again", x.told(2, 5), 35);
    }

    private static void costIfNotRight() {
        CHECK.sentence("Terms: otherwise 30, if it is not right");
        FiguredBass x = new FiguredBass();
        Rows.add(x, 0, 0, 7, 11, 16);
        CHECK.same("told(0, 5), right", x.told(0, 5), 0);
        x.put(0, 3, 17);
        CHECK.same("told(0, 5), one note that does not belong", x.told(0, 5), 30);
        Rows.putAll(x, 0, 8, 10, 17);
        CHECK.same("told(0, 5), three of them", x.told(0, 5), 30);
        Rows.add(x, 0, 0, 8, 10, 17);
        CHECK.same("told(1, 5), the same behind it", x.told(1, 5), 30);
        CHECK.same("count(5)", x.count(5), 60);
    }

    private static void costOfSteps() {
        CHECK.sentence("Terms: the steps by which the upper voices go from the chord ahead, without signs, "
            + "if there is one, and it is set");
        FiguredBass x = Rows.two(0, Rows.notes(0, 9, 11, 16), 0, Rows.notes(0, 9, 11, 16));
        CHECK.same("told(0, 5), none ahead", x.told(0, 5), 0);
        CHECK.same("told(1, 5), none goes", x.told(1, 5), 0);
        x.put(1, 3, 18);
        CHECK.same("told(1, 5), 2 up", x.told(1, 5), 2);
        x.put(1, 2, 9);
        CHECK.same("told(1, 5), 2 down, too", x.told(1, 5), 4);
        x.put(1, 1, 7);
        CHECK.same("told(1, 5), 2 more down", x.told(1, 5), 6);
        x.put(0, 2, -1);
        CHECK.same("told(1, 5), the one ahead not set", x.told(1, 5), 0);
        // The bass goes without cost.
        FiguredBass y = Rows.two(0, Rows.notes(0, 9, 11, 16), 0, Rows.notes(7, 9, 11, 16));
        CHECK.same("told(1, 5), the bass alone goes", y.told(1, 5), 0);
    }

    private static void leadingCountsTheNextChord() {
        CHECK.sentence("Terms: its cost, and the cost of the next chord as it is then (if there is one), "
            + "are the least together");
        FiguredBass x = new FiguredBass();
        x.chord(0, 0);
        Rows.add(x, 0, 0, 9, 11, 14);
        x.lead(0);
        CHECK.notesAre(x, 0, 9, 11, 14);
        x.put(1, 1, -1);
        x.lead(0);
        // The next one is not set: it costs nothing, however this one is led.
        CHECK.notesAre(x, 0, 7, 9, 18);
        x.put(1, 1, 9);
        x.lead(0);
        CHECK.notesAre(x, 0, 9, 11, 14);
        x.drop();
        x.lead(0);
        // The one that was dropped, with all its notes, is no next chord any more.
        CHECK.notesAre(x, 0, 7, 9, 18);
    }

    private static void leadingAtTheEndOfTheRow() {
        CHECK.sentence("Terms: the cost of the next chord (if there is one)");
        FiguredBass x = new FiguredBass();
        for (int chord = 0; chord < 12; chord++) {
            Rows.add(x, 0, 0, 9, 11, 14);
        }
        Rows.putAll(x, 10, 7, 9, 18);
        CHECK.same("best(11), the last one there can be", x.best(11), 7 * 784 + 9 * 28 + 18);
        CHECK.same("advise(11)", x.advise(11), 0);
        CHECK.same("lead(11)", x.lead(11), 0);
        CHECK.notesAre(x, 11, 7, 9, 18);
        Rows.putAll(x, 9, -1, -1, -1);
        Rows.putAll(x, 11, 9, 11, 14);
        CHECK.same("lead(10), by the next one alone, which is the last one", x.lead(10), 0);
        CHECK.notesAre(x, 10, 9, 11, 14);
    }

    private static void ledWithTheLowestTenor() {
        CHECK.sentence("Terms: of several those with the lowest tenor");
        // With 10, 18, 21 and with 11, 17, 21 it costs 6; with 12, 17, 21 and with 14, 17, 19 it costs 8.
        led(Rows.notes(11, 11, 16, 20), 1, 7, 4, 6, 10, 18, 21);
        led(Rows.notes(11, 14, 15, 21), 4, 7, 2, 8, 12, 17, 21);
    }

    private static void ledWithTheLowestAlto() {
        CHECK.sentence("Terms: of several the lowest alto");
        // With 7, 9, 19 and with 7, 12, 16 it costs 3; with 8, 10, 19 and with 8, 12, 17 it costs 2.
        led(Rows.notes(5, 7, 10, 17), 1, 5, 0, 3, 7, 9, 19);
        led(Rows.notes(6, 8, 10, 17), 0, 6, 3, 2, 8, 10, 19);
    }

    private static void ledWithTheLowestSoprano() {
        CHECK.sentence("Terms: then the lowest soprano");
        // With 9, 11, 14 and with 9, 11, 16 it costs 6; with 12, 15, 17 and with 12, 15, 19 it costs 3.
        led(Rows.notes(3, 8, 12, 12), 1, 7, 0, 6, 9, 11, 14);
        led(Rows.notes(7, 13, 16, 18), 3, 3, 1, 3, 12, 15, 17);
    }

    private static void led(
            int[] ahead, int figureAhead, int bass, int figure, int cost, int tenor, int alto, int soprano) {
        FiguredBass x = new FiguredBass();
        Rows.add(x, ahead[0], figureAhead, ahead[1], ahead[2], ahead[3]);
        x.chord(bass, figure);
        CHECK.same("lead(1)", x.lead(1), cost);
        CHECK.notesAre(x, 1, tenor, alto, soprano);
    }

    private static void notesItHadDoNotMatter() {
        CHECK.sentence("Terms: The notes that it had do not matter");
        int[][] had = {{-1, -1, -1}, {5, -1, 22}, {14, 8, 12}, {9, 11, 14}, {5, 8, 12}, {14, 18, 22}};
        for (int[] notes : had) {
            FiguredBass x = new FiguredBass();
            x.chord(0, 0);
            Rows.putAll(x, 0, notes[0], notes[1], notes[2]);
            CHECK.same("ways(0)", x.ways(0), 18);
            CHECK.same("best(0)", x.best(0), 7 * 784 + 9 * 28 + 18);
            CHECK.same("advise(0)", x.advise(0), 0);
            CHECK.same("lead(0)", x.lead(0), 0);
            CHECK.notesAre(x, 0, 7, 9, 18);
        }
    }

    private static void exceptionsChangeNothing() {
        CHECK.sentence("Terms: A method that throws an exception changes nothing");
        FiguredBass x = Rows.rowOf(12);
        x.setKey(true);
        x.setBass(11, 13);
        x.setFigure(11, 3);
        x.setWeight(7, 9);
        CHECK.refused(x, "chord(0, 0) as the 13th", Rows.NO_STATE, () -> x.chord(0, 0));
        CHECK.refused(x, "chord(14, 0)", Rows.NO_ARGUMENT, () -> x.chord(14, 0));
        CHECK.refused(x, "setBass(11, 14)", Rows.NO_ARGUMENT, () -> x.setBass(11, 14));
        CHECK.refused(x, "setFigure(11, 6)", Rows.NO_ARGUMENT, () -> x.setFigure(11, 6));
        CHECK.refused(x, "put(11, 0, 5)", Rows.NO_INDEX, () -> x.put(11, 0, 5));
        CHECK.refused(x, "put(11, 1, 15)", Rows.NO_ARGUMENT, () -> x.put(11, 1, 15));
        CHECK.refused(x, "setWeight(7, 10)", Rows.NO_ARGUMENT, () -> x.setWeight(7, 10));
        CHECK.refused(x, "lead(11), which has no ways", Rows.NO_STATE, () -> x.lead(11));
        CHECK.refused(x, "would(11, 3, 23)", Rows.NO_ARGUMENT, () -> x.would(11, 3, 23));
        FiguredBass empty = new FiguredBass();
        CHECK.refused(empty, "drop() of none", Rows.NO_STATE, empty::drop);
        CHECK.same("count(0)", empty.count(0), 0);
        CHECK.same("chord(13, 5) behind it", empty.chord(13, 5), 0);
    }

    private static void callsOfOneObject() {
        CHECK.sentence("What it is: An object is used for at most 512 calls after it has been made");
        FiguredBass x = new FiguredBass();
        Model m = new Model();
        for (int chord = 0; chord < 12; chord++) {
            int figure = chord % 6;
            CHECK.same("chord", x.chord(chord, figure), m.chord(chord, figure));
        }
        // The dearest calls, till 510 are made; the last two are answered as the first ones would be.
        for (int call = 12; call < 510; call++) {
            int chord = call % 12;
            CHECK.taken("advise(" + chord + ")", () -> x.advise(chord));
        }
        CHECK.same("leadAll(), the 511th call", x.leadAll(), m.leadAll());
        CHECK.same("digest(), the 512th call", x.digest(), m.digest());
    }
}
