/** The faults under 'Terms': each sentence at its edges, and on either side of them. */
public final class FaultsEdgesTest {
    private static final Check CHECK = new Check();

    public static void main(String[] args) {
        noneWithoutBothSet();
        noneOfTheFirstChord();
        theOneAheadCounts();
        asTheyAreRightOrNot();
        fifthsByPitch();
        fifthsWiderByOctaves();
        fifthsWithTheLowerVoiceHigher();
        fifthsInMinor();
        fifthsInBothChords();
        fifthsIfBothMove();
        fifthsOfAllPairs();
        octavesByPitch();
        octavesWiderByOctaves();
        octavesWhicheverIsHigher();
        octavesInBothChords();
        octavesIfBothMove();
        octavesOfAllPairs();
        hiddenUp();
        hiddenDown();
        hiddenWithTheBass();
        hiddenInThisChord();
        heldFourthsMove();
        heldFourthsOfTheFigure();
        heldFourthsOfTheStep();
        fourthsComeDownByOne();
        fourthsOfTheFigureAhead();
        fourthsOfTheStepAhead();
        leadingNotesGoUpByOne();
        leadingNotesAboveTheDegree();
        leadingNotesOfTheDegree();
        seventhsStayOrComeDownByOne();
        seventhsOfTheFigureAhead();
        seventhsOfTheStepAhead();
        leapsByMoreThanFour();
        CHECK.finish();
    }

    private static void noneWithoutBothSet() {
        CHECK.sentence("Terms: Faults, of a chord and the one ahead of it in the row, both set (otherwise none)");
        int[] due = {2, 3, 1, 0, 0, 0, 0, 3};
        for (int chord = 0; chord < 2; chord++) {
            for (int voice = 1; voice <= 3; voice++) {
                FiguredBass x = Rows.two(0, notes(0, 7, 11, 14), 0, notes(5, 12, 16, 19));
                faultsAre(x, 1, due);
                int before = x.put(chord, voice, -1);
                faultsAre(x, 1, 0, 0, 0, 0, 0, 0, 0, 0);
                CHECK.same("count(4)", x.count(4), 0);
                x.put(chord, voice, before);
                faultsAre(x, 1, due);
            }
        }
    }

    private static void noneOfTheFirstChord() {
        CHECK.sentence("13: 0 for the chord 0");
        FiguredBass x = Rows.two(4, notes(0, 10, 11, 17), 3, notes(0, 13, 11, 16));
        faultsAre(x, 0, 0, 0, 0, 0, 0, 0, 0, 0);
        FiguredBass full = new FiguredBass();
        for (int chord = 0; chord < 12; chord++) {
            Rows.add(full, 0, 4, chord % 2 == 0 ? 5 : 10, 8, 12);
        }
        // Of the chord 0 and the last one, 5 steps apart, there is none.
        CHECK.same("faults(0, 7)", full.faults(0, 7), 0);
        CHECK.same("faults(1, 7)", full.faults(1, 7), 1);
        CHECK.same("faults(11, 7)", full.faults(11, 7), 1);
        // 11 leaps; the fourths that are not held over, 6 times, and those that do not come down by 1, 5 times.
        CHECK.same("count(4)", full.count(4), 11 + 6 + 5);
    }

    private static void theOneAheadCounts() {
        CHECK.sentence("13: how many of this kind there are of this chord and the one ahead of it");
        FiguredBass x = new FiguredBass();
        Rows.add(x, 0, 0, 5, 11, 16);
        Rows.add(x, 0, 0, 10, 11, 16);
        Rows.add(x, 0, 0, 10, 11, 22);
        Rows.add(x, 0, 0, 10, 16, 16);
        int[] due = {0, 1, 1, 2};
        for (int chord = 0; chord < 4; chord++) {
            CHECK.same("faults(" + chord + ", 7)", x.faults(chord, 7), due[chord]);
        }
        x.drop();
        CHECK.same("faults(2, 7) behind drop()", x.faults(2, 7), 1);
    }

    private static void asTheyAreRightOrNot() {
        CHECK.sentence("Terms: figures, basses and notes count as they are, whether chords are right or not");
        // Crossed voices, lower than the bass, none of which belongs to its chord.
        FiguredBass x = Rows.two(0, notes(13, 6, 8, 12), 0, notes(12, 5, 14, 12));
        CHECK.same("told(0, 3)", x.told(0, 3), 0);
        CHECK.same("told(1, 3)", x.told(1, 3), 0);
        faultsAre(x, 1, 0, 1, 0, 0, 0, 0, 0, 1);
        // The figure makes a fourth of a note, whatever the others are.
        FiguredBass y = Rows.two(4, notes(13, 9, 8, 12), 4, notes(13, 9, 9, 12));
        CHECK.same("told(0, 3)", y.told(0, 3), 0);
        faultsAre(y, 1, 0, 0, 0, 1, 1, 0, 0, 0);
    }

    // Fault 0

    private static void fifthsByPitch() {
        CHECK.sentence("Fault 0: Two voices are a fifth, if their pitches differ by 7");
        // Bass and tenor alone move.
        due(0, 1, "7 and 7", notes(1, 5, 14, 16), notes(2, 6, 14, 16));
        due(0, 0, "7 and 6", notes(1, 5, 14, 16), notes(3, 6, 14, 16));
        due(0, 0, "7 and 6, five steps wide", notes(1, 5, 14, 16), notes(6, 10, 14, 16));
        due(0, 0, "7 and 8", notes(1, 5, 14, 16), notes(2, 7, 14, 16));
        due(0, 0, "7 and 5", notes(1, 5, 14, 16), notes(3, 6, 14, 16));
        due(0, 0, "6 and 7", notes(6, 10, 14, 16), notes(1, 5, 14, 16));
        due(0, 0, "8 and 7", notes(2, 7, 14, 16), notes(1, 5, 14, 16));
    }

    private static void fifthsWiderByOctaves() {
        CHECK.sentence("Fault 0: or by 7 and some times 12 more");
        due(0, 1, "19 and 19", notes(0, 11, 14, 16), notes(1, 12, 14, 16));
        due(0, 1, "7 and 19", notes(1, 5, 14, 16), notes(0, 11, 14, 16));
        due(0, 1, "19 and 7", notes(0, 11, 14, 16), notes(1, 5, 14, 16));
        due(0, 0, "19 and 18", notes(0, 11, 14, 16), notes(3, 13, 14, 16));
        due(0, 0, "19 and 20", notes(0, 11, 14, 16), notes(2, 14, 14, 16));
        due(0, 1, "31 and 31", notes(0, 7, 10, 18), notes(1, 7, 10, 19));
        due(0, 0, "31 and 30", notes(0, 7, 10, 18), notes(3, 7, 10, 20));
        due(0, 0, "31 and 32", notes(0, 7, 10, 18), notes(2, 7, 10, 21));
        due(0, 0, "31 and 12", notes(0, 7, 10, 18), notes(7, 7, 10, 14));
    }

    private static void fifthsWithTheLowerVoiceHigher() {
        CHECK.sentence("Fault 0: the higher one of the pair by its number having the higher pitch");
        due(0, 1, "7 and 7", notes(0, 10, 14, 22), notes(0, 9, 13, 22));
        due(0, 0, "7 lower and 7 lower", notes(0, 14, 10, 22), notes(0, 13, 9, 22));
        due(0, 0, "7 and 7 lower", notes(0, 9, 13, 22), notes(0, 14, 10, 22));
        due(0, 0, "5 lower and 5 lower", notes(0, 14, 11, 22), notes(0, 12, 9, 22));
        due(0, 0, "7 and 5 lower", notes(0, 10, 14, 22), notes(0, 12, 9, 22));
        due(0, 0, "5 lower and 7", notes(0, 14, 11, 22), notes(0, 9, 13, 22));
        due(0, 0, "5 and 5", notes(0, 11, 14, 22), notes(0, 9, 12, 22));
    }

    private static void fifthsInMinor() {
        CHECK.sentence("Fault 0: their pitches differ by 7, in major or in minor");
        FiguredBass x = Rows.two(0, notes(1, 5, 14, 16), 0, notes(2, 6, 14, 16));
        CHECK.same("faults(1, 0) in major, 7 and 7", x.faults(1, 0), 1);
        x.setKey(true);
        CHECK.same("faults(1, 0) in minor, 6 and 8", x.faults(1, 0), 0);
        FiguredBass y = Rows.two(0, notes(0, 11, 14, 16), 0, notes(3, 7, 14, 16));
        CHECK.same("faults(1, 0) in major, 19 and 7", y.faults(1, 0), 1);
        y.setKey(true);
        CHECK.same("faults(1, 0) in minor, 19 and 7", y.faults(1, 0), 1);
        // Just the one ahead is no fifth in minor, and just this one.
        FiguredBass ahead = Rows.two(0, notes(1, 5, 14, 16), 0, notes(3, 7, 14, 16));
        FiguredBass here = Rows.two(0, notes(3, 7, 14, 16), 0, notes(1, 5, 14, 16));
        CHECK.same("faults(1, 0) in major", ahead.faults(1, 0) + here.faults(1, 0), 2);
        ahead.setKey(true);
        here.setKey(true);
        CHECK.same("faults(1, 0) in minor, 6 and 7", ahead.faults(1, 0), 0);
        CHECK.same("faults(1, 0) in minor, 7 and 6", here.faults(1, 0), 0);
    }

    private static void fifthsInBothChords() {
        CHECK.sentence("Fault 0: pairs that are a fifth in both chords");
        due(0, 1, "in both", notes(0, 11, 14, 16), notes(1, 12, 14, 16));
        due(0, 0, "just in the one ahead", notes(0, 11, 14, 16), notes(1, 13, 14, 16));
        due(0, 0, "just in this one", notes(0, 10, 14, 16), notes(1, 12, 14, 16));
        due(0, 0, "in none", notes(0, 10, 14, 16), notes(1, 13, 14, 16));
        // Another pair in each of them is no pair in both.
        due(0, 0, "bass and tenor, then bass and alto", notes(0, 11, 14, 21), notes(1, 14, 12, 21));
    }

    private static void fifthsIfBothMove() {
        CHECK.sentence("Fault 0: and both move, if its notes are different, in whatever direction");
        due(0, 1, "both up", notes(0, 11, 14, 16), notes(1, 12, 14, 16));
        due(0, 1, "both down", notes(1, 12, 14, 16), notes(0, 11, 14, 16));
        due(0, 1, "the lower one down, the higher one up", notes(1, 5, 14, 16), notes(0, 11, 14, 16));
        due(0, 1, "the lower one up, the higher one down", notes(0, 11, 14, 16), notes(1, 5, 14, 16));
        due(0, 0, "the lower one stays", notes(1, 5, 14, 16), notes(1, 12, 14, 16));
        due(0, 0, "the higher one stays", notes(0, 11, 14, 16), notes(7, 11, 14, 16));
        due(0, 0, "both stay", notes(0, 11, 14, 16), notes(0, 11, 14, 16));
    }

    private static void fifthsOfAllPairs() {
        CHECK.sentence("Fault 0: pairs of two of the four voices");
        due(0, 1, "bass and tenor", notes(0, 11, 14, 16), notes(1, 12, 14, 16));
        due(0, 1, "bass and alto", notes(0, 9, 11, 16), notes(1, 9, 12, 16));
        due(0, 1, "bass and soprano", notes(0, 9, 10, 18), notes(1, 9, 10, 19));
        due(0, 1, "tenor and alto", notes(0, 9, 13, 22), notes(0, 8, 12, 22));
        due(0, 1, "tenor and soprano", notes(0, 9, 10, 13), notes(0, 8, 10, 12));
        due(0, 1, "alto and soprano", notes(0, 9, 9, 13), notes(0, 9, 8, 12));
        due(0, 3, "three pairs", notes(0, 11, 11, 18), notes(1, 12, 12, 19));
        due(0, 4, "four pairs", notes(0, 7, 11, 18), notes(1, 8, 12, 19));
    }

    // Fault 1

    private static void octavesByPitch() {
        CHECK.sentence("Fault 1: Two voices are an octave, if their pitches differ by 0");
        due(1, 1, "0 and 0", notes(0, 9, 9, 19), notes(0, 10, 10, 19));
        due(1, 0, "0 and 1", notes(0, 9, 9, 19), notes(0, 13, 14, 19));
        due(1, 0, "0 and 1 lower", notes(0, 9, 9, 19), notes(0, 14, 13, 19));
        due(1, 0, "1 and 0", notes(0, 13, 14, 19), notes(0, 9, 9, 19));
    }

    private static void octavesWiderByOctaves() {
        CHECK.sentence("Fault 1: or by 12 some times");
        due(1, 1, "12 and 12", notes(0, 7, 9, 19), notes(1, 8, 9, 19));
        due(1, 0, "12 and 11", notes(1, 8, 9, 19), notes(0, 6, 9, 19));
        due(1, 0, "12 and 13", notes(1, 8, 9, 19), notes(6, 14, 9, 19));
        due(1, 0, "12 and 10", notes(0, 7, 9, 19), notes(1, 7, 9, 19));
        due(1, 1, "0 and 12", notes(7, 7, 9, 19), notes(1, 8, 9, 19));
        due(1, 1, "24 and 24", notes(0, 9, 14, 19), notes(1, 9, 15, 19));
        due(1, 1, "12 and 24", notes(1, 9, 8, 19), notes(0, 9, 14, 19));
        due(1, 0, "24 and 23", notes(1, 9, 15, 19), notes(0, 9, 13, 19));
        due(1, 1, "36 and 36", notes(0, 9, 10, 21), notes(1, 9, 10, 22));
        due(1, 0, "36 and 35", notes(1, 9, 10, 22), notes(0, 9, 10, 20));
        due(1, 0, "7 and 7", notes(0, 11, 14, 16), notes(1, 12, 14, 16));
    }

    private static void octavesWhicheverIsHigher() {
        CHECK.sentence("Fault 1: whichever is higher");
        due(1, 1, "12 lower and 12 lower", notes(13, 6, 10, 15), notes(12, 5, 10, 15));
        due(1, 1, "12 and 12 lower", notes(0, 7, 10, 15), notes(13, 6, 10, 15));
        due(1, 1, "12 lower and 0", notes(13, 6, 10, 15), notes(9, 9, 10, 15));
        due(1, 0, "12 lower and 11 lower", notes(12, 5, 10, 15), notes(13, 7, 10, 15));
        due(1, 0, "12 lower and 10 lower", notes(13, 6, 10, 15), notes(11, 5, 10, 15));
    }

    private static void octavesInBothChords() {
        CHECK.sentence("Fault 1: pairs that are an octave in both chords");
        due(1, 1, "in both", notes(0, 7, 9, 19), notes(1, 8, 9, 19));
        due(1, 0, "just in the one ahead", notes(0, 7, 9, 19), notes(1, 9, 9, 19));
        due(1, 0, "just in this one", notes(0, 6, 9, 19), notes(1, 8, 9, 19));
        due(1, 0, "bass and tenor, then bass and alto", notes(0, 7, 9, 19), notes(2, 6, 9, 19));
    }

    private static void octavesIfBothMove() {
        CHECK.sentence("Fault 1: and both move");
        due(1, 1, "both up", notes(0, 7, 9, 19), notes(1, 8, 9, 19));
        due(1, 1, "both down", notes(1, 8, 9, 19), notes(0, 7, 9, 19));
        due(1, 1, "apart", notes(7, 7, 9, 19), notes(1, 8, 9, 19));
        due(1, 1, "together", notes(1, 8, 9, 19), notes(7, 7, 9, 19));
        due(1, 0, "the lower one stays", notes(0, 7, 9, 19), notes(0, 14, 9, 19));
        due(1, 0, "the higher one stays", notes(0, 7, 9, 19), notes(7, 7, 9, 19));
        due(1, 0, "both stay", notes(0, 7, 9, 19), notes(0, 7, 9, 19));
    }

    private static void octavesOfAllPairs() {
        CHECK.sentence("Fault 1: pairs of two of the four voices");
        due(1, 1, "bass and tenor", notes(0, 7, 9, 19), notes(1, 8, 9, 19));
        due(1, 1, "bass and alto", notes(0, 9, 14, 19), notes(1, 9, 15, 19));
        due(1, 1, "bass and soprano", notes(0, 9, 10, 14), notes(1, 9, 10, 15));
        due(1, 1, "tenor and alto", notes(0, 9, 16, 19), notes(0, 8, 15, 19));
        due(1, 1, "tenor and soprano", notes(0, 9, 10, 16), notes(0, 8, 10, 15));
        due(1, 1, "alto and soprano", notes(0, 8, 9, 16), notes(0, 8, 10, 17));
        due(1, 6, "all six", notes(0, 7, 14, 21), notes(1, 8, 15, 22));
    }

    // Fault 2

    private static void hiddenUp() {
        CHECK.sentence("Fault 2: if bass and soprano both go up, the soprano by 2 steps or more");
        due(2, 0, "the soprano stays", notes(0, 7, 9, 19), notes(1, 7, 9, 19));
        due(2, 0, "the soprano up by 1", notes(0, 7, 9, 18), notes(1, 7, 9, 19));
        due(2, 1, "the soprano up by 2", notes(0, 7, 9, 17), notes(1, 7, 9, 19));
        due(2, 1, "the soprano up by 3", notes(0, 7, 9, 16), notes(1, 7, 9, 19));
        due(2, 1, "the soprano up by 7", notes(0, 7, 9, 12), notes(1, 7, 9, 19));
        due(2, 0, "the soprano down by 2", notes(0, 7, 9, 21), notes(1, 7, 9, 19));
    }

    private static void hiddenDown() {
        CHECK.sentence("Fault 2: or both go down, the soprano by 2 steps or more");
        due(2, 0, "the soprano stays", notes(2, 7, 9, 19), notes(1, 7, 9, 19));
        due(2, 0, "the soprano down by 1", notes(2, 7, 9, 20), notes(1, 7, 9, 19));
        due(2, 1, "the soprano down by 2", notes(2, 7, 9, 21), notes(1, 7, 9, 19));
        due(2, 1, "the soprano down by 3", notes(2, 7, 9, 22), notes(1, 7, 9, 19));
        due(2, 0, "the soprano up by 2", notes(2, 7, 9, 17), notes(1, 7, 9, 19));
    }

    private static void hiddenWithTheBass() {
        CHECK.sentence("Fault 2: if bass and soprano both go up, or both go down");
        due(2, 1, "the bass up by 1", notes(0, 7, 9, 17), notes(1, 7, 9, 19));
        due(2, 0, "the bass stays, the soprano up", notes(1, 7, 9, 17), notes(1, 7, 9, 19));
        due(2, 0, "the bass down by 1, the soprano up", notes(2, 7, 9, 17), notes(1, 7, 9, 19));
        due(2, 1, "the bass down by 1", notes(2, 7, 9, 21), notes(1, 7, 9, 19));
        due(2, 0, "the bass stays, the soprano down", notes(1, 7, 9, 21), notes(1, 7, 9, 19));
        due(2, 0, "the bass up by 1, the soprano down", notes(0, 7, 9, 21), notes(1, 7, 9, 19));
        // Tenor and alto do not count.
        due(2, 0, "the tenor up to a fifth", notes(0, 8, 10, 19), notes(1, 12, 10, 19));
        due(2, 0, "the alto up to an octave", notes(0, 9, 10, 19), notes(1, 9, 15, 19));
    }

    private static void hiddenInThisChord() {
        CHECK.sentence("Fault 2: and they are a fifth or an octave in this chord; else 0");
        due(2, 0, "6 and two octaves", notes(0, 7, 9, 17), notes(3, 7, 9, 20));
        due(2, 1, "7 and two octaves", notes(0, 7, 9, 17), notes(1, 7, 9, 19));
        due(2, 0, "8 and two octaves", notes(0, 7, 9, 17), notes(2, 7, 9, 21));
        due(2, 1, "7", notes(7, 9, 10, 12), notes(10, 9, 10, 14));
        due(2, 0, "11", notes(8, 9, 10, 15), notes(7, 9, 10, 13));
        due(2, 1, "12", notes(8, 9, 10, 16), notes(7, 9, 10, 14));
        due(2, 0, "13", notes(5, 9, 10, 12), notes(6, 9, 10, 14));
        due(2, 1, "24", notes(0, 7, 9, 13), notes(1, 7, 9, 15));
        due(2, 1, "36", notes(0, 7, 9, 20), notes(1, 7, 9, 22));
        due(2, 1, "0", notes(13, 7, 9, 14), notes(12, 7, 9, 12));
        due(2, 0, "2", notes(12, 7, 9, 14), notes(11, 7, 9, 12));
        due(2, 0, "a fifth just in the one ahead", notes(0, 7, 9, 18), notes(1, 7, 9, 20));
        due(2, 1, "a fifth in both, still 1", notes(0, 7, 9, 18), notes(2, 7, 9, 20));
        due(2, 1, "an octave in both, still 1", notes(0, 7, 9, 14), notes(2, 7, 9, 16));
    }

    // Fault 3

    private static void heldFourthsMove() {
        CHECK.sentence("Fault 3: upper voices with the step 3 above its bass that move");
        int[] here = notes(0, 10, 10, 17);
        due(3, 0, "all stay", 0, notes(0, 10, 10, 17), 4, here);
        due(3, 1, "the tenor up by 1", 0, notes(0, 9, 10, 17), 4, here);
        due(3, 1, "the tenor down by 1", 0, notes(0, 11, 10, 17), 4, here);
        due(3, 1, "the alto", 0, notes(0, 10, 8, 17), 4, here);
        due(3, 1, "the soprano", 0, notes(0, 10, 10, 22), 4, here);
        due(3, 2, "two of them", 0, notes(0, 9, 10, 16), 4, here);
        due(3, 3, "all three", 0, notes(0, 9, 11, 16), 4, here);
        due(3, 0, "the bass alone moves", 0, notes(1, 10, 10, 17), 4, here);
    }

    private static void heldFourthsOfTheFigure() {
        CHECK.sentence("Fault 3: with the figure 4 in this chord");
        for (int figure = 0; figure < 6; figure++) {
            for (int ahead = 0; ahead < 6; ahead++) {
                due(3, figure == 4 ? 1 : 0, "the figures " + ahead + " and " + figure,
                    ahead, notes(0, 9, 11, 16), figure, notes(0, 10, 11, 16));
            }
        }
    }

    private static void heldFourthsOfTheStep() {
        CHECK.sentence("Fault 3: with the step 3 above its bass");
        for (int bass = 0; bass < 14; bass++) {
            // The alto has the note 11, from 12: the step 3 above the basses 1 and 8.
            due(3, bass == 1 || bass == 8 ? 1 : 0, "the bass " + bass,
                0, notes(bass, 7, 12, 19), 4, notes(bass, 7, 11, 19));
        }
        due(3, 1, "below the bass: 9 less 13 is 4 less than 0", 0, notes(13, 8, 12, 19), 4, notes(13, 9, 12, 19));
        due(3, 0, "below the bass: 10 less 13 is 3 less than 0", 0, notes(13, 8, 12, 19), 4, notes(13, 10, 12, 19));
        due(3, 0, "the step 3 above the bass ahead", 0, notes(0, 9, 11, 19), 4, notes(1, 10, 11, 19));
    }

    // Fault 4

    private static void fourthsComeDownByOne() {
        CHECK.sentence("Fault 4: that do not come down by just 1 step");
        int[] ahead = notes(0, 10, 10, 17);
        due(4, 0, "all come down by 1", 4, ahead, 0, notes(0, 9, 9, 16));
        due(4, 1, "the tenor stays", 4, ahead, 0, notes(0, 10, 9, 16));
        due(4, 1, "the tenor comes down by 2", 4, ahead, 0, notes(0, 8, 9, 16));
        due(4, 1, "the tenor goes up by 1", 4, ahead, 0, notes(0, 11, 9, 16));
        due(4, 1, "the alto stays", 4, ahead, 0, notes(0, 9, 10, 16));
        due(4, 1, "the soprano stays", 4, ahead, 0, notes(0, 9, 9, 17));
        due(4, 3, "all stay", 4, ahead, 0, notes(0, 10, 10, 17));
        due(4, 0, "the bass moves, too", 4, ahead, 0, notes(13, 9, 9, 16));
    }

    private static void fourthsOfTheFigureAhead() {
        CHECK.sentence("Fault 4: with the figure 4 in the chord ahead");
        for (int figure = 0; figure < 6; figure++) {
            for (int ahead = 0; ahead < 6; ahead++) {
                due(4, ahead == 4 ? 1 : 0, "the figures " + ahead + " and " + figure,
                    ahead, notes(0, 10, 11, 16), figure, notes(0, 11, 11, 16));
            }
        }
    }

    private static void fourthsOfTheStepAhead() {
        CHECK.sentence("Fault 4: with the step 3 in that one");
        for (int bass = 0; bass < 14; bass++) {
            // The alto has the note 11 ahead: the step 3 above the basses 1 and 8.
            due(4, bass == 1 || bass == 8 ? 1 : 0, "the bass " + bass,
                4, notes(bass, bass % 7 + 7, 11, bass % 7 + 14), 0, notes(0, bass % 7 + 7, 13, bass % 7 + 14));
        }
        due(4, 1, "below the bass: 9 less 13 is 4 less than 0", 4, notes(13, 9, 13, 20), 0, notes(13, 9, 13, 20));
        due(4, 0, "below the bass: 10 less 13 is 3 less than 0", 4, notes(13, 10, 13, 20), 0, notes(13, 10, 13, 20));
    }

    // Fault 5

    private static void leadingNotesGoUpByOne() {
        CHECK.sentence("Fault 5: that do not go up by just 1 step");
        int[] ahead = notes(4, 13, 13, 20);
        due(5, 0, "all go up by 1", ahead, notes(0, 14, 14, 21));
        due(5, 1, "the tenor stays", ahead, notes(0, 13, 14, 21));
        due(5, 1, "the tenor goes down by 1", ahead, notes(0, 12, 14, 21));
        due(5, 1, "the alto goes up by 2", ahead, notes(0, 14, 15, 21));
        due(5, 1, "the alto stays", ahead, notes(0, 14, 13, 21));
        due(5, 1, "the soprano stays", ahead, notes(0, 14, 14, 20));
        due(5, 1, "the soprano goes up by 2", ahead, notes(0, 14, 14, 22));
        due(5, 3, "all stay", ahead, notes(0, 13, 13, 20));
    }

    private static void leadingNotesAboveTheDegree() {
        CHECK.sentence("Fault 5: if the bass of this chord has the degree 0");
        for (int bass = 0; bass < 14; bass++) {
            due(5, bass == 0 || bass == 7 ? 1 : 0, "the bass " + bass, notes(4, 13, 14, 19), notes(bass, 13, 14, 19));
            // The bass of the one ahead does not count.
            due(5, 1, "the bass " + bass + " ahead", notes(bass, 13, 14, 19), notes(7, 13, 14, 19));
            due(5, 0, "the bass " + bass + " ahead of the bass 1", notes(bass, 13, 14, 19), notes(1, 13, 14, 19));
        }
    }

    private static void leadingNotesOfTheDegree() {
        CHECK.sentence("Fault 5: upper voices with the degree 6 in the chord ahead");
        for (int note = 5; note <= 14; note++) {
            due(5, note == 6 || note == 13 ? 1 : 0, "the tenor " + note,
                notes(4, note, 14, 19), notes(0, note, 14, 19));
        }
        for (int note = 8; note <= 18; note++) {
            due(5, note == 13 ? 1 : 0, "the alto " + note,
                notes(4, 7, note, 19), notes(0, 7, note, 19));
        }
        for (int note = 12; note <= 22; note++) {
            due(5, note == 13 || note == 20 ? 1 : 0, "the soprano " + note,
                notes(4, 7, 14, note), notes(0, 7, 14, note));
        }
        due(5, 0, "the degree 6 in this chord", notes(4, 12, 14, 19), notes(0, 13, 14, 20));
    }

    // Fault 6

    private static void seventhsStayOrComeDownByOne() {
        CHECK.sentence("Fault 6: that neither stay nor come down by just 1 step");
        int[] ahead = notes(0, 13, 13, 20);
        due(6, 0, "all stay", 3, ahead, 0, notes(1, 13, 13, 20));
        due(6, 0, "all come down by 1", 3, ahead, 0, notes(1, 12, 12, 19));
        due(6, 1, "the tenor goes up by 1", 3, ahead, 0, notes(1, 14, 13, 20));
        due(6, 1, "the tenor comes down by 2", 3, ahead, 0, notes(1, 11, 13, 20));
        due(6, 1, "the alto goes up by 1", 3, ahead, 0, notes(1, 13, 14, 20));
        due(6, 1, "the alto comes down by 2", 3, ahead, 0, notes(1, 13, 11, 20));
        due(6, 1, "the soprano goes up by 1", 3, ahead, 0, notes(1, 13, 13, 21));
        due(6, 1, "the soprano comes down by 2", 3, ahead, 0, notes(1, 13, 13, 18));
        due(6, 3, "all go up by 1", 3, ahead, 0, notes(1, 14, 14, 21));
    }

    private static void seventhsOfTheFigureAhead() {
        CHECK.sentence("Fault 6: with the figure 3 in the chord ahead");
        for (int figure = 0; figure < 6; figure++) {
            for (int ahead = 0; ahead < 6; ahead++) {
                due(6, ahead == 3 ? 1 : 0, "the figures " + ahead + " and " + figure,
                    ahead, notes(0, 9, 11, 13), figure, notes(1, 9, 11, 15));
            }
        }
    }

    private static void seventhsOfTheStepAhead() {
        CHECK.sentence("Fault 6: upper voices with the step 6 in that one");
        for (int bass = 0; bass < 14; bass++) {
            // The alto has the note 11 ahead: the step 6 above the basses 5 and 12.
            due(6, bass == 5 || bass == 12 ? 1 : 0, "the bass " + bass,
                3, notes(bass, bass % 7 + 7, 11, bass % 7 + 14), 0, notes(1, bass % 7 + 7, 12, bass % 7 + 14));
        }
        due(6, 1, "below the bass: 12 less 13 is 1 less than 0", 3, notes(13, 12, 13, 20), 0, notes(1, 13, 13, 20));
        due(6, 0, "below the bass: 11 less 13 is 2 less than 0", 3, notes(13, 11, 13, 20), 0, notes(1, 12, 13, 20));
        due(6, 0, "the step 6 in this chord", 3, notes(0, 7, 11, 14), 3, notes(1, 14, 11, 14));
    }

    // Fault 7

    private static void leapsByMoreThanFour() {
        CHECK.sentence("Fault 7: upper voices that go up or down by more than 4 steps");
        for (int by = 0; by <= 9; by++) {
            int leap = by > 4 ? 1 : 0;
            due(7, leap, "the tenor up by " + by, notes(0, 5, 9, 14), notes(0, 5 + by, 9, 14));
            due(7, leap, "the tenor down by " + by, notes(0, 14, 9, 14), notes(0, 14 - by, 9, 14));
            due(7, leap, "the alto up by " + by, notes(0, 9, 8, 14), notes(0, 9, 8 + by, 14));
            due(7, leap, "the alto down by " + by, notes(0, 9, 18, 14), notes(0, 9, 18 - by, 14));
            due(7, leap, "the soprano up by " + by, notes(0, 9, 11, 12), notes(0, 9, 11, 12 + by));
            due(7, leap, "the soprano down by " + by, notes(0, 9, 11, 22), notes(0, 9, 11, 22 - by));
            due(7, 0, "the bass up by " + by, notes(0, 9, 11, 12), notes(by, 9, 11, 12));
            due(7, 0, "the bass down by " + by, notes(13, 9, 11, 12), notes(13 - by, 9, 11, 12));
        }
        due(7, 3, "all by 5", notes(0, 5, 8, 12), notes(0, 10, 13, 17));
        due(7, 0, "all by 4", notes(0, 5, 8, 12), notes(0, 9, 12, 16));
    }

    private static int[] notes(int bass, int tenor, int alto, int soprano) {
        return Rows.notes(bass, tenor, alto, soprano);
    }

    private static void faultsAre(FiguredBass x, int chord, int... due) {
        for (int fault = 0; fault < due.length; fault++) {
            CHECK.same("faults(" + chord + ", " + fault + ")", x.faults(chord, fault), due[fault]);
        }
    }

    private static void due(int fault, int due, String text, int[] ahead, int[] here) {
        due(fault, due, text, 0, ahead, 0, here);
    }

    private static void due(int fault, int due, String text, int figureAhead, int[] ahead, int figure, int[] here) {
        FiguredBass x = Rows.two(figureAhead, ahead, figure, here);
        CHECK.same(text + ": faults(1, " + fault + ")", x.faults(1, fault), due);
        x.setWeight(fault, 0);
        int without = x.told(1, 5);
        x.setWeight(fault, 9);
        CHECK.same(text + ": told(1, 5) with the weight 9", x.told(1, 5), without + 9L * due);
    }
}
