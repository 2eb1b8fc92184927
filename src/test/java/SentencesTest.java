import java.util.function.Supplier;

/**
 * What the document says beside the edges that the tests of edges ask, from its first line on. What is
 * said of "the least of all" is asked of each set of notes there can be, put by hand.
 */
public final class SentencesTest {
    private static final Check CHECK = new Check();

    public static void main(String[] args) {
        putByHandOrLed();
        divisionIsCut();
        notesOfTheScale();
        numbersOfTheVoices();
        notesOfTheBass();
        twelveNumberedFromZero();
        faultsTimesWeightsAllAdded();
        ledByTheLeastOfAll();
        ledAheadOfOneThatIsNotRight();
        nothingOfTheOtherChordsIsLed();
        putPutsOneNote();
        keyFromNowOn();
        weightFromNowOn();
        leadAllTellsTheRow();
        waysAreAllNotesByWhichItIsRight();
        adviseIsTheLeastOfAll();
        digestOfEachWeightInItsOrder();
        CHECK.finish();
    }

    // Terms

    private static void putByHandOrLed() {
        CHECK.sentence("Terms: tenor, alto and soprano are put to them by hand, or led by rules");
        FiguredBass byHand = new FiguredBass();
        byHand.chord(0, 0);
        Rows.putAll(byHand, 0, 14, 8, 12);
        CHECK.notesAre(byHand, 0, 14, 8, 12);
        CHECK.same("told(0, 3), by hand", byHand.told(0, 3), 0);
        FiguredBass led = new FiguredBass();
        led.chord(0, 0);
        led.lead(0);
        CHECK.notesAre(led, 0, 7, 9, 18);
        CHECK.same("told(0, 3), led", led.told(0, 3), 1);
        led.put(0, 3, 16);
        CHECK.same("told(0, 3), led, and then by hand", led.told(0, 3), 0);
        CHECK.same("lead(0) again", led.lead(0), 0);
        CHECK.notesAre(led, 0, 7, 9, 18);
    }

    private static void divisionIsCut() {
        CHECK.sentence("Terms: All numbers are whole, and / is cut towards 0");
        // The highest degree is nearest to the next octave, and yet in its own one.
        int[] due = {11, 23, 35, 47};
        FiguredBass x = new FiguredBass();
        for (int octave = 0; octave < 4; octave++) {
            int note = octave * 7 + 6;
            CHECK.same("pitch(" + note + ")", x.pitch(note), due[octave]);
            CHECK.same("pitch(" + (note - 6) + ")", x.pitch(note - 6), due[octave] - 11);
        }
    }

    private static void notesOfTheScale() {
        CHECK.sentence("Terms: Notes are told by steps of the scale, 0 to 27; "
            + "from 0 on: 0, 2, 4, 5, 7, 9, 11 in major (at first), 0, 2, 3, 5, 7, 8, 11 in minor");
        int[][] due = {
            {0, 2, 4, 5, 7, 9, 11, 12, 14, 16, 17, 19, 21, 23, 24, 26, 28, 29, 31, 33, 35, 36, 38, 40, 41, 43, 45, 47},
            {0, 2, 3, 5, 7, 8, 11, 12, 14, 15, 17, 19, 20, 23, 24, 26, 27, 29, 31, 32, 35, 36, 38, 39, 41, 43, 44, 47},
        };
        FiguredBass x = new FiguredBass();
        for (int key = 0; key < 2; key++) {
            x.setKey(key == 1);
            for (int note = 0; note < 28; note++) {
                CHECK.same("pitch(" + note + ") in the key " + key, x.pitch(note), due[key][note]);
            }
            CHECK.refused(x, "pitch(-1)", Rows.NO_ARGUMENT, () -> x.pitch(-1));
            CHECK.refused(x, "pitch(28)", Rows.NO_ARGUMENT, () -> x.pitch(28));
        }
    }

    private static void numbersOfTheVoices() {
        CHECK.sentence("Terms: Voices: 0 bass, 1 tenor, 2 alto, 3 soprano");
        int[] due = {3, 6, 9, 20};
        FiguredBass x = new FiguredBass();
        x.chord(due[0], 0);
        for (int voice = 1; voice <= 3; voice++) {
            x.put(0, voice, due[voice]);
        }
        for (int voice = 0; voice <= 3; voice++) {
            CHECK.same("note(0, " + voice + ")", x.note(0, voice), due[voice]);
        }
        CHECK.same("best(0) tells the tenor first, and the soprano last", x.best(0), 784 * 5 + 28 * 10 + 14);
    }

    private static void notesOfTheBass() {
        CHECK.sentence("Terms: those of the bass are 0 to 13");
        for (int bass = -1; bass <= 14; bass++) {
            FiguredBass x = new FiguredBass();
            int b = bass;
            if (bass < 0 || bass > 13) {
                CHECK.refused(x, "chord(" + b + ", 0)", Rows.NO_ARGUMENT, () -> x.chord(b, 0));
                x.chord(0, 0);
                CHECK.refused(x, "setBass(0, " + b + ")", Rows.NO_ARGUMENT, () -> x.setBass(0, b));
            } else {
                CHECK.same("chord(" + b + ", 0)", x.chord(b, 0), 0);
                CHECK.same("note(0, 0)", x.note(0, 0), b);
                CHECK.same("setBass(0, " + b + ")", x.setBass(0, b), b);
            }
        }
    }

    private static void twelveNumberedFromZero() {
        CHECK.sentence("Terms: At most 12 stand in a row, numbered from 0");
        FiguredBass x = new FiguredBass();
        for (int chord = 0; chord < 12; chord++) {
            CHECK.same("chord(" + (13 - chord) + ", " + chord % 6 + ")", x.chord(13 - chord, chord % 6), chord);
        }
        CHECK.refused(x, "chord(0, 0) as the 13th", Rows.NO_STATE, () -> x.chord(0, 0));
        for (int chord = 0; chord < 12; chord++) {
            CHECK.same("note(" + chord + ", 0)", x.note(chord, 0), 13 - chord);
            CHECK.same("told(" + chord + ", 0)", x.told(chord, 0), chord % 6);
        }
    }

    private static void faultsTimesWeightsAllAdded() {
        CHECK.sentence("Terms: otherwise 30, if it is not right; the steps by which the upper voices go; "
            + "and each fault times its weight; all added");
        FiguredBass x = Rows.rowOf(12);
        for (int fault = 0; fault < 8; fault++) {
            x.setWeight(fault, fault + 1);
        }
        for (int chord = 0; chord < 12; chord++) {
            int due = (x.told(chord, 3) == 1 ? 0 : 30) + x.told(chord, 4);
            for (int fault = 0; fault < 8; fault++) {
                due += (fault + 1) * x.faults(chord, fault);
            }
            CHECK.same("told(" + chord + ", 5)", x.told(chord, 5), due);
        }
    }

    private static void ledByTheLeastOfAll() {
        CHECK.sentence("Terms: of all three notes for its upper voices by which it is right, those are put with which "
            + "its cost, and the cost of the next chord as it is then, are the least together");
        ledByTheLeast(1, () -> threeChords(0, 0, 4, 3, 0, 0));
        ledByTheLeast(1, () -> threeChords(5, 1, 4, 4, 4, 0));
        ledByTheLeast(1, () -> threeChords(3, 5, 4, 2, 11, 1));
        ledByTheLeast(0, () -> threeChords(4, 3, 0, 0, 7, 0));
        ledByTheLeast(2, () -> threeChords(2, 1, 4, 4, 7, 0));
    }

    /** The chords ahead and behind are set, and the middle one is not. */
    private static FiguredBass threeChords(int... bassesAndFigures) {
        FiguredBass x = new FiguredBass();
        for (int chord = 0; chord < 3; chord++) {
            x.chord(bassesAndFigures[2 * chord], bassesAndFigures[2 * chord + 1]);
        }
        x.lead(0);
        x.lead(2);
        return x;
    }

    private static void ledByTheLeast(int chord, Supplier<FiguredBass> made) {
        FiguredBass x = made.get();
        int[] due = leastOfAll(chord, made);
        CHECK.same("best(" + chord + ")", x.best(chord), due[0]);
        int cost = x.lead(chord);
        CHECK.same("told(" + chord + ", 5) behind lead()", x.told(chord, 5), cost);
        CHECK.same("the costs together", cost + (chord < 2 ? x.told(chord + 1, 5) : 0), due[1]);
        CHECK.same("the notes", 784 * x.note(chord, 1) + 28 * x.note(chord, 2) + x.note(chord, 3), due[0]);
    }

    /** All notes there can be are put by hand: what best() is due to tell, the costs together, and how many ways. */
    private static int[] leastOfAll(int chord, Supplier<FiguredBass> made) {
        int[] found = {-1, 0, 0};
        for (int tenor = Rows.LOWEST[1]; tenor <= Rows.HIGHEST[1]; tenor++) {
            for (int alto = Rows.LOWEST[2]; alto <= Rows.HIGHEST[2]; alto++) {
                FiguredBass x = made.get();
                x.put(chord, 1, tenor);
                x.put(chord, 2, alto);
                for (int soprano = Rows.LOWEST[3]; soprano <= Rows.HIGHEST[3]; soprano++) {
                    x.put(chord, 3, soprano);
                    int together = x.told(chord, 5) + (chord + 1 < x.count(0) ? x.told(chord + 1, 5) : 0);
                    boolean right = x.told(chord, 3) == 1;
                    found[2] += right ? 1 : 0;
                    // The lowest ones come first, and stay.
                    if (right && (found[0] < 0 || together < found[1])) {
                        found[0] = 784 * tenor + 28 * alto + soprano;
                        found[1] = together;
                    }
                }
            }
        }
        return found;
    }

    private static void ledAheadOfOneThatIsNotRight() {
        CHECK.sentence("Terms: the cost of the next chord as it is then (..; with its 30, if it is not right)");
        FiguredBass x = new FiguredBass();
        x.chord(0, 0);
        Rows.add(x, 0, 0, 9, 11, 13);
        CHECK.same("told(1, 3)", x.told(1, 3), 0);
        // Its steps and faults count, though it is not right: 9, 11, 14 is but one step away.
        CHECK.same("lead(0)", x.lead(0), 0);
        CHECK.notesAre(x, 0, 9, 11, 14);
        CHECK.same("told(1, 5)", x.told(1, 5), 31);
        ledByTheLeast(1, () -> {
            FiguredBass y = threeChords(0, 0, 4, 3, 0, 0);
            Rows.putAll(y, 2, 6, 10, 13);
            return y;
        });
    }

    private static void nothingOfTheOtherChordsIsLed() {
        CHECK.sentence("9: Leads a chord");
        for (int chord = 0; chord < 12; chord++) {
            FiguredBass x = Rows.rowOf(12);
            int best = x.best(chord);
            FiguredBass byHand = Rows.rowOf(12);
            Rows.putAll(byHand, chord, best / 784, best / 28 % 28, best % 28);
            x.lead(chord);
            CHECK.same("digest() behind lead(" + chord + "), and with the same notes by hand",
                x.digest(), byHand.digest());
        }
    }

    // Promises

    private static void putPutsOneNote() {
        CHECK.sentence("5: Puts a note into a chord by hand, or takes it away");
        for (int chord = 0; chord < 3; chord++) {
            for (int voice = 1; voice <= 3; voice++) {
                for (int note : new int[] {-1, Rows.LOWEST[voice], Rows.HIGHEST[voice]}) {
                    FiguredBass x = Rows.someRow();
                    FiguredBass before = Rows.someRow();
                    x.put(chord, voice, note);
                    for (int place = 0; place < 12; place++) {
                        boolean put = place == chord * 4 + voice;
                        CHECK.same("note(" + place / 4 + ", " + place % 4 + ") behind put",
                            x.note(place / 4, place % 4), put ? note : before.note(place / 4, place % 4));
                    }
                }
            }
        }
    }

    private static void keyFromNowOn() {
        CHECK.sentence("7: whether the scale is in minor from now on");
        FiguredBass x = new FiguredBass();
        Rows.add(x, 1, 0, 5, 8, 17);
        x.chord(3, 0);
        CHECK.same("lead(1) in major", x.lead(1), 7);
        CHECK.notesAre(x, 1, 5, 10, 14);
        x.setKey(true);
        CHECK.same("lead(1) in minor: the fifth 1, 5 is less than one", x.lead(1), 6);
        CHECK.notesAre(x, 1, 7, 12, 17);
        CHECK.same("faults(1, 0) in minor", x.faults(1, 0), 0);
        x.setKey(false);
        CHECK.notesAre(x, 1, 7, 12, 17);
        CHECK.same("faults(1, 0) in major again", x.faults(1, 0), 1);
        CHECK.same("told(1, 5) in major again", x.told(1, 5), 8);
        CHECK.same("lead(1) in major again", x.lead(1), 7);
    }

    private static void weightFromNowOn() {
        CHECK.sentence("8: its weight from now on");
        FiguredBass x = new FiguredBass();
        Rows.add(x, 1, 0, 5, 8, 17);
        x.chord(3, 0);
        x.setWeight(0, 0);
        CHECK.same("lead(1), fifths free", x.lead(1), 6);
        CHECK.notesAre(x, 1, 7, 12, 17);
        x.setWeight(0, 9);
        CHECK.same("told(1, 5), fifths of 9", x.told(1, 5), 15);
        CHECK.same("faults(1, 0), whatever they weigh", x.faults(1, 0), 1);
        CHECK.same("would(0, 1, -1), without a chord ahead", x.would(0, 1, -1), 0);
        CHECK.same("lead(1), fifths of 9", x.lead(1), 7);
        CHECK.notesAre(x, 1, 5, 10, 14);
    }

    private static void leadAllTellsTheRow() {
        CHECK.sentence("10: Leads all chords, from 0 on, each as the row is then");
        FiguredBass x = new FiguredBass();
        FiguredBass byHand = new FiguredBass();
        int[] bass = {0, 4, 13, 5, 13, 0};
        int[] figure = {0, 3, 3, 4, 5, 0};
        for (int chord = 0; chord < bass.length; chord++) {
            x.chord(bass[chord], figure[chord]);
            byHand.chord(bass[chord], figure[chord]);
        }
        CHECK.same("leadAll(), but for two above the bass 13", x.leadAll(), 4);
        for (int chord = 0; chord < bass.length; chord++) {
            int best = byHand.best(chord);
            CHECK.same("best(" + chord + ") is none", best < 0, bass[chord] == 13);
            if (best >= 0) {
                Rows.putAll(byHand, chord, best / 784, best / 28 % 28, best % 28);
            }
        }
        CHECK.same("digest() behind leadAll(), and with the same notes by hand", x.digest(), byHand.digest());
    }

    private static void waysAreAllNotesByWhichItIsRight() {
        CHECK.sentence("17: in how many ways notes can be put to its upper voices so that it is right");
        for (int bass = 0; bass < 14; bass += 3) {
            for (int figure = 0; figure < 6; figure++) {
                int b = bass;
                int f = figure;
                Supplier<FiguredBass> made = () -> {
                    FiguredBass x = new FiguredBass();
                    x.chord(b, f);
                    return x;
                };
                CHECK.same("bass " + b + ", figure " + f + ", ways(0)", made.get().ways(0), leastOfAll(0, made)[2]);
            }
        }
    }

    private static void adviseIsTheLeastOfAll() {
        CHECK.sentence("20: so that, led with it, its cost, and the cost of the next chord behind it "
            + "(if there is one), both with this figure, are the least together");
        int[] bass = {0, 5, 1, 4, 7, 2, 9, 3, 11, 6, 13, 0};
        for (int chord = 0; chord < 12; chord++) {
            int due = -1;
            int least = 0;
            for (int figure = 0; figure < 6; figure++) {
                FiguredBass x = rowAbove(bass);
                x.setFigure(chord, figure);
                if (x.ways(chord) > 0) {
                    int together = x.lead(chord) + (chord < 11 ? x.told(chord + 1, 5) : 0);
                    if (due < 0 || together < least) {
                        due = figure;
                        least = together;
                    }
                }
            }
            CHECK.same("advise(" + chord + ")", rowAbove(bass).advise(chord), due);
        }
    }

    private static FiguredBass rowAbove(int[] bass) {
        FiguredBass x = new FiguredBass();
        for (int chord = 0; chord < bass.length; chord++) {
            x.chord(bass[chord], chord % 3);
        }
        x.leadAll();
        return x;
    }

    private static void digestOfEachWeightInItsOrder() {
        CHECK.sentence("22: what count() tells, in its order; the weights");
        FiguredBass x = new FiguredBass();
        long due = 1693;
        for (int what = 0; what <= 6; what++) {
            due = due * 31 + (what == 6 ? 1 : 0);
        }
        x.setKey(true);
        for (int fault = 0; fault < 8; fault++) {
            x.setWeight(fault, 9 - fault);
            due = due * 31 + 9 - fault;
        }
        CHECK.same("digest() of an empty row in minor", x.digest(), due);
        // One chord that is not set: its bass, three times none, its figure and degree, and its ways.
        x.chord(8, 3);
        due = 1693 * 31 + 1;
        for (int what = 1; what <= 6; what++) {
            due = due * 31 + (what == 6 ? 1 : 0);
        }
        for (int fault = 0; fault < 8; fault++) {
            due = due * 31 + 9 - fault;
        }
        int[] chord = {8, -1, -1, -1, 3, 1, 0, 0, 0, 0, 0, 0, 0, 0, 0, 0, 0, 0, 6};
        for (int number : chord) {
            due = due * 31 + number;
        }
        CHECK.same("digest() of a chord that is not set", x.digest(), due);
    }
}
