/** Promises 11, 12 and 14 to 17: what there is; the faults have a test of their own. */
public final class TellsTest {
    private static final Check CHECK = new Check();

    public static void main(String[] args) {
        note();
        told();
        toldOfAChordThatIsNotSet();
        onlyItsOwnFigureMakesAChordRight();
        rightChords();
        count();
        pitch();
        fits();
        ways();
        CHECK.finish();
    }

    // Promise 11

    private static void note() {
        FiguredBass x = Rows.someRow();
        int[] due = {4, 8, 14, 20};
        for (int voice = 0; voice < 4; voice++) {
            CHECK.same("note(2, " + voice + ")", x.note(2, voice), due[voice]);
        }
        x.put(2, 3, -1);
        CHECK.same("note(2, 3) of none", x.note(2, 3), -1);
        for (int wrong : new int[] {-1, 3, 12, Integer.MIN_VALUE, Integer.MAX_VALUE}) {
            CHECK.refused(x, "note(" + wrong + ", 0)", Rows.NO_INDEX, () -> x.note(wrong, 0));
        }
        for (int wrong : new int[] {-1, 4, Integer.MIN_VALUE, Integer.MAX_VALUE}) {
            CHECK.refused(x, "note(0, " + wrong + ")", Rows.NO_INDEX, () -> x.note(0, wrong));
        }
    }

    // Promise 12

    private static void told() {
        FiguredBass x = Rows.someRow();
        toldAre(x, 0, 0, 0, 1, 1, 0, 0);
        toldAre(x, 1, 0, 1, 1, 1, 3, 9);
        toldAre(x, 2, 3, 4, 1, 0, 5, 35);
        x.setBass(2, 13);
        CHECK.same("told(2, 1) with the bass 13", x.told(2, 1), 6);
        for (int wrong : new int[] {-1, 3, 12, Integer.MIN_VALUE, Integer.MAX_VALUE}) {
            CHECK.refused(x, "told(" + wrong + ", 0)", Rows.NO_INDEX, () -> x.told(wrong, 0));
        }
        for (int wrong : new int[] {-1, 6, Integer.MIN_VALUE, Integer.MAX_VALUE}) {
            CHECK.refused(x, "told(0, " + wrong + ")", Rows.NO_INDEX, () -> x.told(0, wrong));
        }
    }

    private static void toldOfAChordThatIsNotSet() {
        for (int voice = 1; voice <= 3; voice++) {
            FiguredBass x = Rows.someRow();
            x.put(1, voice, -1);
            toldAre(x, 1, 0, 1, 0, 0, 0, 0);
            // The next one, which is not right, has nothing ahead to go from.
            toldAre(x, 2, 3, 4, 1, 0, 0, 30);
        }
        FiguredBass x = Rows.someRow();
        x.put(2, 1, -1);
        toldAre(x, 2, 3, 4, 0, 0, 0, 0);
    }

    private static void toldAre(FiguredBass x, int chord, int... due) {
        for (int what = 0; what < due.length; what++) {
            CHECK.same("told(" + chord + ", " + what + ")", x.told(chord, what), due[what]);
        }
    }

    private static void onlyItsOwnFigureMakesAChordRight() {
        int[][] upper = {{7, 9, 18}, {7, 9, 19}, {7, 10, 19}, {9, 11, 13}, {7, 10, 18}, {9, 11, 12}};
        for (int notes = 0; notes < 6; notes++) {
            for (int figure = 0; figure < 6; figure++) {
                FiguredBass x = new FiguredBass();
                Rows.add(x, 0, figure, upper[notes][0], upper[notes][1], upper[notes][2]);
                CHECK.same("notes of " + notes + " with the figure " + figure, x.told(0, 3), notes == figure ? 1 : 0);
            }
        }
    }

    private static void rightChords() {
        right("the tenor as high as the bass", 7, 7, 9, 18, 1);
        right("the alto as high as the tenor, and no step 0", 0, 9, 9, 18, 1);
        right("the soprano as high as the alto", 0, 9, 18, 18, 1);
        right("no step 4", 0, 7, 9, 16, 0);
        right("no step 2", 0, 7, 11, 18, 0);
        right("a note that does not belong", 0, 9, 11, 15, 0);
        right("the tenor lower than the bass", 8, 5, 10, 15, 0);
        right("the alto lower than the tenor", 0, 11, 9, 14, 0);
        right("the soprano lower than the alto", 0, 7, 18, 16, 0);
    }

    private static void right(String call, int bass, int tenor, int alto, int soprano, int due) {
        FiguredBass x = new FiguredBass();
        Rows.add(x, bass, 0, tenor, alto, soprano);
        CHECK.same(call + ": told(0, 3)", x.told(0, 3), due);
        CHECK.same(call + ": told(0, 5)", x.told(0, 5), due == 1 ? 0 : 30);
    }

    // Promise 14

    private static void count() {
        FiguredBass x = Rows.someRow();
        countsAre(x, 3, 3, 2, 8, 3, 44, 0);
        x.setWeight(0, 0);
        countsAre(x, 3, 3, 2, 8, 3, 40, 0);
        x.setKey(true);
        countsAre(x, 3, 3, 2, 8, 1, 40, 1);
        x.put(0, 1, -1);
        countsAre(x, 3, 2, 1, 5, 0, 35, 1);
        for (int wrong : new int[] {-1, 7, Integer.MIN_VALUE, Integer.MAX_VALUE}) {
            CHECK.refused(x, "count(" + wrong + ")", Rows.NO_INDEX, () -> x.count(wrong));
        }
    }

    private static void countsAre(FiguredBass x, int... due) {
        for (int what = 0; what < due.length; what++) {
            CHECK.same("count(" + what + ")", x.count(what), due[what]);
        }
    }

    // Promise 15

    private static void pitch() {
        int[] major = {0, 2, 4, 5, 7, 9, 11};
        int[] minor = {0, 2, 3, 5, 7, 8, 11};
        FiguredBass x = new FiguredBass();
        pitchesAre(x, major);
        x.setKey(true);
        pitchesAre(x, minor);
        x.setKey(false);
        pitchesAre(x, major);
        for (int wrong : new int[] {-1, 28, Integer.MIN_VALUE, Integer.MAX_VALUE}) {
            CHECK.refused(x, "pitch(" + wrong + ")", Rows.NO_ARGUMENT, () -> x.pitch(wrong));
        }
    }

    private static void pitchesAre(FiguredBass x, int[] scale) {
        int note = 0;
        for (int octave = 0; octave < 4; octave++) {
            for (int due : scale) {
                CHECK.same("pitch(" + note + ")", x.pitch(note), due + octave * 12);
                note++;
            }
        }
    }

    // Promise 16

    private static void fits() {
        FiguredBass x = new FiguredBass();
        x.chord(0, 0);
        x.chord(13, 3);
        fitsJust(x, 0, 1, 7, 9, 11, 14);
        fitsJust(x, 0, 2, 9, 11, 14, 16, 18);
        fitsJust(x, 0, 3, 14, 16, 18, 21);
        // Notes below the bass belong by their step as well.
        fitsJust(x, 1, 1, 5, 6, 8, 10, 12, 13);
        for (int wrong : new int[] {-1, 2, 12, Integer.MIN_VALUE, Integer.MAX_VALUE}) {
            CHECK.refused(x, "fits(" + wrong + ", 1, 7)", Rows.NO_INDEX, () -> x.fits(wrong, 1, 7));
            CHECK.refused(x, "fits(" + wrong + ", 1, 28)", Rows.NO_INDEX, () -> x.fits(wrong, 1, 28));
        }
        for (int wrong : new int[] {-1, 0, 4, Integer.MIN_VALUE, Integer.MAX_VALUE}) {
            CHECK.refused(x, "fits(0, " + wrong + ", 7)", Rows.NO_INDEX, () -> x.fits(0, wrong, 7));
            CHECK.refused(x, "fits(0, " + wrong + ", -1)", Rows.NO_INDEX, () -> x.fits(0, wrong, -1));
        }
        for (int wrong : new int[] {-1, 28, Integer.MIN_VALUE, Integer.MAX_VALUE}) {
            CHECK.refused(x, "fits(0, 1, " + wrong + ")", Rows.NO_ARGUMENT, () -> x.fits(0, 1, wrong));
        }
    }

    private static void fitsJust(FiguredBass x, int chord, int voice, int... due) {
        for (int note = 0; note < 28; note++) {
            boolean fits = false;
            for (int one : due) {
                fits |= one == note;
            }
            CHECK.same("fits(" + chord + ", " + voice + ", " + note + ")", x.fits(chord, voice, note), fits);
        }
    }

    // Promise 17

    private static void ways() {
        FiguredBass x = new FiguredBass();
        x.chord(0, 0);
        CHECK.same("ways(0)", x.ways(0), 18);
        Rows.putAll(x, 0, 14, 8, 22);
        CHECK.same("ways(0), whatever it has", x.ways(0), 18);
        x.chord(7, 2);
        CHECK.same("ways(1)", x.ways(1), 19);
        x.setBass(1, 13);
        CHECK.same("ways(1), just 13, 16, 18", x.ways(1), 1);
        x.setFigure(1, 0);
        CHECK.same("ways(1), 13, 15, 17 and 13, 17, 22", x.ways(1), 2);
        x.setFigure(1, 3);
        CHECK.same("ways(1), none", x.ways(1), 0);
        CHECK.changesNothing(x, "ways(0)", () -> x.ways(0));
        for (int wrong : new int[] {-1, 2, 12, Integer.MIN_VALUE, Integer.MAX_VALUE}) {
            CHECK.refused(x, "ways(" + wrong + ")", Rows.NO_INDEX, () -> x.ways(wrong));
        }
    }
}
