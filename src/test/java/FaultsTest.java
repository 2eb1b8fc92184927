/** Promise 13: the faults, kind by kind, each as notes of bass, tenor, alto, soprano in two chords. */
public final class FaultsTest {
    private static final Check CHECK = new Check();

    public static void main(String[] args) {
        fifths();
        octaves();
        hidden();
        fourthsHeldOver();
        fourthsComeDown();
        leadingNotes();
        sevenths();
        leaps();
        chordsWithoutFaults();
        refuses();
        CHECK.finish();
    }

    private static void fifths() {
        due(0, 1, "both move", notes(0, 11, 14, 16), notes(1, 12, 14, 16));
        due(0, 0, "one stays", notes(0, 11, 14, 16), notes(7, 11, 14, 16));
        due(0, 0, "none moves", notes(0, 11, 14, 16), notes(0, 11, 14, 16));
        due(0, 1, "in opposite directions, an octave wider", notes(7, 11, 14, 16), notes(1, 12, 14, 16));
        due(0, 0, "five steps, but a small fifth", notes(5, 9, 14, 16), notes(6, 10, 14, 16));
        due(0, 0, "a fifth just behind", notes(0, 9, 14, 16), notes(1, 12, 14, 16));
        due(0, 1, "of tenor and alto", notes(0, 10, 14, 22), notes(0, 9, 13, 22));
        due(0, 0, "the higher voice lower", notes(0, 14, 10, 22), notes(0, 13, 9, 22));
        due(0, 1, "of bass and soprano", notes(0, 5, 10, 18), notes(1, 5, 10, 19));
        due(0, 2, "two pairs", notes(0, 7, 11, 16), notes(1, 8, 12, 17));
        FiguredBass x = Rows.someRow();
        x.setKey(true);
        CHECK.same("the two pairs in minor: faults(1, 0)", x.faults(1, 0), 0);
    }

    private static void octaves() {
        due(1, 1, "one octave", notes(0, 7, 11, 16), notes(1, 8, 11, 16));
        due(1, 1, "one and the same note", notes(0, 9, 9, 19), notes(0, 10, 10, 19));
        due(1, 1, "two octaves", notes(0, 5, 14, 16), notes(1, 5, 15, 16));
        due(1, 1, "the higher voice lower", notes(13, 6, 10, 15), notes(12, 5, 10, 15));
        due(1, 1, "in opposite directions", notes(7, 7, 11, 17), notes(1, 8, 11, 17));
        due(1, 0, "one stays", notes(0, 7, 11, 16), notes(7, 7, 11, 16));
        due(1, 0, "an octave just ahead", notes(0, 7, 11, 16), notes(1, 9, 11, 16));
        due(1, 3, "three voices, three pairs", notes(0, 7, 14, 20), notes(1, 8, 15, 20));
    }

    private static void hidden() {
        due(2, 1, "up to a fifth", notes(0, 7, 9, 14), notes(1, 7, 9, 19));
        due(2, 1, "the soprano up by 2", notes(0, 7, 9, 17), notes(1, 7, 9, 19));
        due(2, 0, "the soprano up by 1", notes(0, 7, 9, 18), notes(1, 7, 9, 19));
        due(2, 1, "down to a fifth", notes(2, 7, 9, 21), notes(1, 7, 9, 19));
        due(2, 0, "the soprano down by 1", notes(2, 7, 9, 20), notes(1, 7, 9, 19));
        due(2, 0, "the bass down", notes(2, 7, 9, 17), notes(1, 7, 9, 19));
        due(2, 0, "the bass up, the soprano down", notes(0, 7, 9, 21), notes(1, 7, 9, 19));
        due(2, 0, "the bass stays, the soprano up", notes(1, 7, 9, 17), notes(1, 7, 9, 19));
        due(2, 0, "the bass stays, the soprano down", notes(1, 7, 9, 21), notes(1, 7, 9, 19));
        due(2, 0, "the bass down, the soprano stays", notes(2, 7, 9, 19), notes(1, 7, 9, 19));
        due(2, 1, "up to an octave", notes(0, 7, 9, 13), notes(1, 7, 9, 15));
        due(2, 1, "down to one and the same note", notes(13, 7, 9, 14), notes(12, 7, 9, 12));
        due(2, 0, "up to a third", notes(0, 7, 9, 15), notes(1, 7, 9, 17));
        due(2, 0, "to a small fifth", notes(5, 7, 9, 15), notes(6, 7, 9, 17));
    }

    private static void fourthsHeldOver() {
        int[] ahead = notes(0, 7, 11, 16);
        due(3, 2, "two that move", 0, ahead, 4, notes(0, 10, 11, 17));
        due(3, 1, "one of them stays", 0, notes(0, 10, 11, 16), 4, notes(0, 10, 11, 17));
        due(3, 0, "both stay", 0, notes(0, 10, 11, 17), 4, notes(0, 10, 11, 17));
        due(3, 0, "another figure", 0, ahead, 2, notes(0, 10, 11, 17));
        due(3, 0, "the figure 4 ahead", 4, ahead, 0, notes(0, 10, 11, 17));
        due(3, 1, "above the bass of this chord", 0, notes(1, 7, 8, 14), 4, notes(5, 7, 9, 15));
    }

    private static void fourthsComeDown() {
        int[] ahead = notes(0, 10, 11, 17);
        due(4, 0, "both come down by 1", 4, ahead, 0, notes(0, 9, 11, 16));
        due(4, 1, "one stays", 4, ahead, 0, notes(0, 9, 11, 17));
        due(4, 2, "one goes up, one comes down by 2", 4, ahead, 0, notes(0, 11, 11, 15));
        due(4, 0, "another figure", 2, ahead, 0, notes(0, 11, 11, 15));
        due(4, 0, "the figure 4 behind", 0, ahead, 4, notes(0, 11, 11, 15));
        due(4, 2, "above the bass of the one ahead", 4, ahead, 0, notes(3, 10, 11, 17));
    }

    private static void leadingNotes() {
        int[] ahead = notes(4, 13, 13, 20);
        due(5, 0, "all go up by 1", ahead, notes(0, 14, 14, 21));
        due(5, 2, "one stays, one goes down", ahead, notes(0, 14, 13, 19));
        due(5, 2, "the same, with the bass 7", ahead, notes(7, 14, 13, 19));
        due(5, 3, "one goes up by 2", ahead, notes(7, 13, 15, 19));
        due(5, 0, "the same, with the bass 1", ahead, notes(1, 14, 13, 19));
        due(5, 0, "the bass 0 just ahead", notes(0, 13, 13, 20), notes(6, 14, 13, 19));
        due(5, 0, "the bass has the degree 6", notes(6, 7, 9, 18), notes(0, 7, 9, 18));
    }

    private static void sevenths() {
        int[] ahead = notes(0, 13, 13, 20);
        due(6, 0, "one stays, two come down by 1", 3, ahead, 0, notes(1, 12, 13, 19));
        due(6, 1, "one goes up", 3, ahead, 0, notes(1, 12, 13, 21));
        due(6, 3, "one goes up, two come down by 2", 3, ahead, 0, notes(1, 11, 11, 21));
        due(6, 0, "another figure", 5, ahead, 0, notes(1, 11, 11, 21));
        due(6, 0, "the figure 3 behind", 0, ahead, 3, notes(1, 11, 11, 21));
        due(6, 0, "other steps of the figure 3", 3, notes(0, 9, 11, 16), 0, notes(1, 10, 10, 18));
        due(6, 1, "above the bass of the one ahead", 3, notes(4, 8, 10, 13), 0, notes(0, 7, 11, 14));
    }

    private static void leaps() {
        due(7, 0, "by 4", notes(0, 5, 8, 22), notes(0, 9, 12, 18));
        due(7, 1, "up by 5", notes(0, 5, 8, 22), notes(0, 10, 12, 18));
        due(7, 1, "down by 5", notes(0, 5, 8, 22), notes(0, 9, 12, 17));
        due(7, 3, "all", notes(0, 5, 18, 22), notes(0, 14, 8, 12));
        due(7, 0, "the bass alone", notes(0, 5, 8, 22), notes(13, 5, 8, 22));
    }

    private static void chordsWithoutFaults() {
        FiguredBass x = Rows.someRow();
        faultsAre(x, 0, 0, 0, 0, 0, 0, 0, 0, 0);
        faultsAre(x, 1, 2, 1, 0, 0, 0, 0, 0, 0);
        faultsAre(x, 2, 0, 0, 0, 0, 0, 0, 0, 0);
        for (int voice = 1; voice <= 3; voice++) {
            FiguredBass y = Rows.someRow();
            y.put(1, voice, -1);
            faultsAre(y, 1, 0, 0, 0, 0, 0, 0, 0, 0);
            faultsAre(y, 2, 0, 0, 0, 0, 0, 0, 0, 0);
            FiguredBass z = Rows.someRow();
            z.put(0, voice, -1);
            faultsAre(z, 1, 0, 0, 0, 0, 0, 0, 0, 0);
        }
    }

    private static void faultsAre(FiguredBass x, int chord, int... due) {
        for (int fault = 0; fault < due.length; fault++) {
            CHECK.same("faults(" + chord + ", " + fault + ")", x.faults(chord, fault), due[fault]);
        }
    }

    private static void refuses() {
        FiguredBass x = Rows.someRow();
        for (int wrong : new int[] {-1, 3, 12, Integer.MIN_VALUE, Integer.MAX_VALUE}) {
            CHECK.refused(x, "faults(" + wrong + ", 0)", Rows.NO_INDEX, () -> x.faults(wrong, 0));
        }
        for (int wrong : new int[] {-1, 8, Integer.MIN_VALUE, Integer.MAX_VALUE}) {
            CHECK.refused(x, "faults(1, " + wrong + ")", Rows.NO_INDEX, () -> x.faults(1, wrong));
        }
    }

    private static int[] notes(int bass, int tenor, int alto, int soprano) {
        return Rows.notes(bass, tenor, alto, soprano);
    }

    private static void due(int fault, int due, String text, int[] ahead, int[] here) {
        due(fault, due, text, 0, ahead, 0, here);
    }

    private static void due(int fault, int due, String text, int figureAhead, int[] ahead, int figure, int[] here) {
        FiguredBass x = Rows.two(figureAhead, ahead, figure, here);
        CHECK.same("fault " + fault + ", " + text, x.faults(1, fault), due);
        // What it costs more with the weight 9 than with 0 is nine times as much.
        x.setWeight(fault, 0);
        int without = x.told(1, 5);
        x.setWeight(fault, 9);
        CHECK.same("fault " + fault + ", " + text + ": cost", x.told(1, 5), without + 9L * due);
    }
}
