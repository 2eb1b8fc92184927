/** Promises 1 to 10: what changes the row. */
public final class RowTest {
    private static final Check CHECK = new Check();

    public static void main(String[] args) {
        newObject();
        chordAdds();
        chordRefuses();
        setBass();
        setFigure();
        put();
        putTakesTheNotesOfEachVoice();
        drop();
        setKey();
        setWeight();
        leadTakesTheLeastThenTheLowest();
        leadHeedsWeights();
        leadHeedsTheNextChord();
        leadRefuses();
        leadAll();
        leadAllGoesByTheRowAsItIsThen();
        CHECK.finish();
    }

    // Promise 1

    private static void newObject() {
        FiguredBass x = new FiguredBass();
        for (int what = 0; what < 7; what++) {
            CHECK.same("new: count(" + what + ")", x.count(what), 0);
        }
        CHECK.same("new: pitch(2)", x.pitch(2), 4);
        CHECK.same("new: mean()", x.mean(), 0.0);
        for (int fault = 0; fault < 8; fault++) {
            CHECK.same("new: setWeight(" + fault + ", 2)", x.setWeight(fault, 2), 2);
        }
    }

    // Promise 2

    private static void chordAdds() {
        FiguredBass x = new FiguredBass();
        CHECK.same("chord(0, 0)", x.chord(0, 0), 0);
        CHECK.same("chord(13, 5)", x.chord(13, 5), 1);
        CHECK.same("count(0)", x.count(0), 2);
        CHECK.same("note(1, 0)", x.note(1, 0), 13);
        CHECK.same("told(1, 0)", x.told(1, 0), 5);
        for (int voice = 1; voice <= 3; voice++) {
            CHECK.same("note(1, " + voice + ")", x.note(1, voice), -1);
        }
        for (int chord = 2; chord < 12; chord++) {
            CHECK.same("chord(3, 1)", x.chord(3, 1), chord);
        }
        CHECK.same("count(0)", x.count(0), 12);
    }

    private static void chordRefuses() {
        FiguredBass x = new FiguredBass();
        chordRefusesArguments(x);
        for (int chord = 0; chord < 12; chord++) {
            Rows.add(x, chord, chord % 6, 7, 11, 16);
        }
        CHECK.refused(x, "chord(0, 0) as the 13th", Rows.NO_STATE, () -> x.chord(0, 0));
        CHECK.refused(x, "chord(13, 5) as the 13th", Rows.NO_STATE, () -> x.chord(13, 5));
        // The wrong argument is named ahead of the full row.
        chordRefusesArguments(x);
    }

    private static void chordRefusesArguments(FiguredBass x) {
        CHECK.refused(x, "chord(-1, 0)", Rows.NO_ARGUMENT, () -> x.chord(-1, 0));
        CHECK.refused(x, "chord(14, 0)", Rows.NO_ARGUMENT, () -> x.chord(14, 0));
        CHECK.refused(x, "chord(0, -1)", Rows.NO_ARGUMENT, () -> x.chord(0, -1));
        CHECK.refused(x, "chord(0, 6)", Rows.NO_ARGUMENT, () -> x.chord(0, 6));
        for (int wrong : Rows.NO_INTS) {
            CHECK.refused(x, "chord(" + wrong + ", 0)", Rows.NO_ARGUMENT, () -> x.chord(wrong, 0));
            CHECK.refused(x, "chord(0, " + wrong + ")", Rows.NO_ARGUMENT, () -> x.chord(0, wrong));
        }
    }

    // Promise 3

    private static void setBass() {
        FiguredBass x = Rows.someRow();
        CHECK.same("setBass(1, 13)", x.setBass(1, 13), 1);
        CHECK.same("setBass(1, 0)", x.setBass(1, 0), 13);
        CHECK.same("note(1, 0)", x.note(1, 0), 0);
        CHECK.same("note(0, 0)", x.note(0, 0), 0);
        CHECK.same("note(2, 0)", x.note(2, 0), 4);
        CHECK.same("note(1, 1), which stays", x.note(1, 1), 8);
        for (int wrong : new int[] {-1, 3, 12, Integer.MIN_VALUE, Integer.MAX_VALUE}) {
            CHECK.refused(x, "setBass(" + wrong + ", 5)", Rows.NO_INDEX, () -> x.setBass(wrong, 5));
            CHECK.refused(x, "setBass(" + wrong + ", 14)", Rows.NO_INDEX, () -> x.setBass(wrong, 14));
        }
        for (int wrong : new int[] {-1, 14, Integer.MIN_VALUE, Integer.MAX_VALUE}) {
            CHECK.refused(x, "setBass(1, " + wrong + ")", Rows.NO_ARGUMENT, () -> x.setBass(1, wrong));
        }
    }

    // Promise 4

    private static void setFigure() {
        FiguredBass x = Rows.someRow();
        CHECK.same("setFigure(2, 5)", x.setFigure(2, 5), 3);
        CHECK.same("setFigure(2, 0)", x.setFigure(2, 0), 5);
        CHECK.same("told(2, 0)", x.told(2, 0), 0);
        CHECK.same("setFigure(1, 4)", x.setFigure(1, 4), 0);
        CHECK.same("told(0, 0)", x.told(0, 0), 0);
        for (int wrong : new int[] {-1, 3, 12, Integer.MIN_VALUE, Integer.MAX_VALUE}) {
            CHECK.refused(x, "setFigure(" + wrong + ", 5)", Rows.NO_INDEX, () -> x.setFigure(wrong, 5));
            CHECK.refused(x, "setFigure(" + wrong + ", 6)", Rows.NO_INDEX, () -> x.setFigure(wrong, 6));
        }
        for (int wrong : new int[] {-1, 6, Integer.MIN_VALUE, Integer.MAX_VALUE}) {
            CHECK.refused(x, "setFigure(1, " + wrong + ")", Rows.NO_ARGUMENT, () -> x.setFigure(1, wrong));
        }
    }

    // Promise 5

    private static void put() {
        FiguredBass x = Rows.someRow();
        CHECK.same("put(1, 2, 13), a note that does not belong", x.put(1, 2, 13), 12);
        CHECK.same("note(1, 2)", x.note(1, 2), 13);
        CHECK.same("put(1, 2, -1)", x.put(1, 2, -1), 13);
        CHECK.same("note(1, 2)", x.note(1, 2), -1);
        CHECK.same("put(1, 2, -1) again", x.put(1, 2, -1), -1);
        CHECK.same("put(1, 2, 12)", x.put(1, 2, 12), -1);
        CHECK.same("note(0, 2)", x.note(0, 2), 11);
        CHECK.same("note(1, 1)", x.note(1, 1), 8);
        for (int wrong : new int[] {-1, 3, 12, Integer.MIN_VALUE, Integer.MAX_VALUE}) {
            CHECK.refused(x, "put(" + wrong + ", 1, 7)", Rows.NO_INDEX, () -> x.put(wrong, 1, 7));
            CHECK.refused(x, "put(" + wrong + ", 1, 99)", Rows.NO_INDEX, () -> x.put(wrong, 1, 99));
        }
        for (int wrong : new int[] {-1, 0, 4, Integer.MIN_VALUE, Integer.MAX_VALUE}) {
            CHECK.refused(x, "put(0, " + wrong + ", 12)", Rows.NO_INDEX, () -> x.put(0, wrong, 12));
            CHECK.refused(x, "put(0, " + wrong + ", 99)", Rows.NO_INDEX, () -> x.put(0, wrong, 99));
        }
    }

    private static void putTakesTheNotesOfEachVoice() {
        int[] lowest = {0, 5, 8, 12};
        int[] highest = {0, 14, 18, 22};
        FiguredBass x = Rows.someRow();
        for (int voice = 1; voice <= 3; voice++) {
            int v = voice;
            x.put(1, v, -1);
            CHECK.same("put of the lowest", x.put(1, v, lowest[v]), -1);
            CHECK.same("put of the highest", x.put(1, v, highest[v]), lowest[v]);
            CHECK.refused(x, "put too low in " + v, Rows.NO_ARGUMENT, () -> x.put(1, v, lowest[v] - 1));
            CHECK.refused(x, "put too high in " + v, Rows.NO_ARGUMENT, () -> x.put(1, v, highest[v] + 1));
            for (int wrong : new int[] {-2, 28, Integer.MIN_VALUE, Integer.MAX_VALUE}) {
                CHECK.refused(x, "put(1, " + v + ", " + wrong + ")", Rows.NO_ARGUMENT, () -> x.put(1, v, wrong));
            }
        }
    }

    // Promise 6

    private static void drop() {
        FiguredBass x = Rows.someRow();
        CHECK.same("drop()", x.drop(), 2);
        CHECK.same("count(0)", x.count(0), 2);
        CHECK.same("count(5) behind drop", x.count(5), 9);
        CHECK.refused(x, "note(2, 0) of the dropped one", Rows.NO_INDEX, () -> x.note(2, 0));
        CHECK.same("chord(5, 1) behind drop", x.chord(5, 1), 2);
        for (int voice = 1; voice <= 3; voice++) {
            CHECK.same("a new chord has no note of the dropped one", x.note(2, voice), -1);
        }
        CHECK.same("drop()", x.drop(), 2);
        CHECK.same("drop()", x.drop(), 1);
        CHECK.same("drop()", x.drop(), 0);
        CHECK.refused(x, "drop() of an empty row", Rows.NO_STATE, x::drop);
        CHECK.same("chord(0, 0) of an empty row", x.chord(0, 0), 0);
    }

    // Promise 7

    private static void setKey() {
        FiguredBass x = Rows.someRow();
        CHECK.same("setKey(false)", x.setKey(false), false);
        CHECK.same("setKey(true)", x.setKey(true), false);
        CHECK.same("setKey(true)", x.setKey(true), true);
        CHECK.same("count(6)", x.count(6), 1);
        CHECK.same("pitch(2) in minor", x.pitch(2), 3);
        CHECK.same("faults(1, 0) in minor", x.faults(1, 0), 0);
        CHECK.same("count(5) in minor", x.count(5), 40);
        CHECK.same("setKey(false)", x.setKey(false), true);
        CHECK.same("count(5) in major", x.count(5), 44);
    }

    // Promise 8

    private static void setWeight() {
        FiguredBass x = Rows.someRow();
        CHECK.same("setWeight(0, 9)", x.setWeight(0, 9), 2);
        CHECK.same("told(1, 5), two faults of 9, one of 2", x.told(1, 5), 3 + 18 + 2);
        CHECK.same("setWeight(0, 0)", x.setWeight(0, 0), 9);
        CHECK.same("setWeight(7, 5)", x.setWeight(7, 5), 2);
        CHECK.same("told(1, 5), one fault of 2", x.told(1, 5), 3 + 2);
        CHECK.same("setWeight(7, 5)", x.setWeight(7, 5), 5);
        for (int wrong : new int[] {-1, 8, Integer.MIN_VALUE, Integer.MAX_VALUE}) {
            CHECK.refused(x, "setWeight(" + wrong + ", 1)", Rows.NO_INDEX, () -> x.setWeight(wrong, 1));
            CHECK.refused(x, "setWeight(" + wrong + ", 10)", Rows.NO_INDEX, () -> x.setWeight(wrong, 10));
        }
        for (int wrong : new int[] {-1, 10, Integer.MIN_VALUE, Integer.MAX_VALUE}) {
            CHECK.refused(x, "setWeight(1, " + wrong + ")", Rows.NO_ARGUMENT, () -> x.setWeight(1, wrong));
        }
    }

    // Promise 9

    private static void leadTakesTheLeastThenTheLowest() {
        FiguredBass x = new FiguredBass();
        x.chord(0, 0);
        CHECK.same("lead(0), alone", x.lead(0), 0);
        CHECK.notesAre(x, 0, 7, 9, 18);
        Rows.putAll(x, 0, 14, 9, 12);
        CHECK.same("lead(0), whatever it had", x.lead(0), 0);
        CHECK.notesAre(x, 0, 7, 9, 18);
        CHECK.same("told(0, 3)", x.told(0, 3), 1);
    }

    private static void leadHeedsWeights() {
        FiguredBass x = new FiguredBass();
        Rows.add(x, 0, 0, 7, 11, 16);
        x.chord(1, 0);
        // 5, 10, 15 and 5, 10, 17 cost the same; 8, 12, 17 is nearest, but in fifths and octaves.
        CHECK.same("lead(1)", x.lead(1), 4);
        CHECK.notesAre(x, 1, 5, 10, 15);
        Rows.weighAll(x, 0);
        CHECK.same("lead(1) without weights", x.lead(1), 3);
        CHECK.notesAre(x, 1, 8, 12, 17);
        CHECK.notesAre(x, 0, 7, 11, 16);
    }

    private static void leadHeedsTheNextChord() {
        FiguredBass x = new FiguredBass();
        x.chord(0, 0);
        Rows.add(x, 0, 0, 9, 11, 14);
        CHECK.same("lead(0) ahead of a set one", x.lead(0), 0);
        CHECK.notesAre(x, 0, 9, 11, 14);
        CHECK.notesAre(x, 1, 9, 11, 14);
        x.put(1, 3, 15);
        CHECK.same("lead(0) ahead of one that is not right", x.lead(0), 0);
        CHECK.notesAre(x, 0, 9, 11, 14);
        x.put(1, 3, -1);
        CHECK.same("lead(0) ahead of one that is not set", x.lead(0), 0);
        CHECK.notesAre(x, 0, 7, 9, 18);
    }

    private static void leadRefuses() {
        FiguredBass x = Rows.someRow();
        Rows.add(x, 13, 3, 13, 15, 17);
        CHECK.refused(x, "lead(3) of a chord without ways", Rows.NO_STATE, () -> x.lead(3));
        for (int wrong : new int[] {-1, 4, 12, Integer.MIN_VALUE, Integer.MAX_VALUE}) {
            CHECK.refused(x, "lead(" + wrong + ")", Rows.NO_INDEX, () -> x.lead(wrong));
        }
    }

    // Promise 10

    private static void leadAll() {
        FiguredBass x = new FiguredBass();
        CHECK.same("leadAll() of an empty row", x.leadAll(), 0);
        x.chord(0, 0);
        Rows.add(x, 13, 3, 13, 15, 17);
        x.chord(13, 3);
        x.chord(0, 0);
        CHECK.same("leadAll()", x.leadAll(), 2);
        CHECK.notesAre(x, 1, 13, 15, 17);
        CHECK.notesAre(x, 2, -1, -1, -1);
        CHECK.notesAre(x, 3, 7, 9, 18);
    }

    private static void leadAllGoesByTheRowAsItIsThen() {
        FiguredBass x = new FiguredBass();
        Rows.add(x, 0, 0, 7, 9, 18);
        Rows.add(x, 0, 0, 9, 11, 14);
        CHECK.same("leadAll()", x.leadAll(), 2);
        CHECK.notesAre(x, 0, 9, 11, 14);
        CHECK.notesAre(x, 1, 9, 11, 14);
        x = new FiguredBass();
        Rows.add(x, 0, 0, 7, 11, 16);
        x.chord(0, 0);
        x.chord(1, 0);
        CHECK.same("leadAll()", x.leadAll(), 3);
        CHECK.notesAre(x, 0, 7, 9, 18);
        CHECK.notesAre(x, 1, 7, 9, 18);
        CHECK.same("count(2)", x.count(2), 3);
    }
}
