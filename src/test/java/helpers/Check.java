/** Compares answers with those that are due, prints the wrong ones, and counts them. */
final class Check {
    private int asked = 0;
    private int wrong = 0;
    private String sentence = "";

    /** The sentence of the document that is asked from here on; it stands ahead of each wrong answer. */
    void sentence(String text) {
        sentence = "[" + text + "] ";
    }

    void same(String call, long got, long due) {
        asked++;
        if (got != due) {
            wrong(call + " answered " + got + ", due is " + due);
        }
    }

    void same(String call, double got, double due) {
        asked++;
        if (Double.compare(got, due) != 0) {
            wrong(call + " answered " + got + ", due is " + due);
        }
    }

    void same(String call, boolean got, boolean due) {
        same(call, got ? 1L : 0L, due ? 1L : 0L);
    }

    /** The upper voices of a chord have these notes. */
    void notesAre(FiguredBass object, int chord, int tenor, int alto, int soprano) {
        same("tenor of " + chord, object.note(chord, 1), tenor);
        same("alto of " + chord, object.note(chord, 2), alto);
        same("soprano of " + chord, object.note(chord, 3), soprano);
    }

    /** The call throws nothing. */
    void taken(String call, Runnable run) {
        asked++;
        try {
            run.run();
        } catch (RuntimeException e) {
            wrong(call + " throws " + e + ", due is an answer");
        }
    }

    /** The call throws just the exception that is due, and the object tells the same as before. */
    void refused(FiguredBass object, String call, Class<? extends RuntimeException> due, Runnable run) {
        asked++;
        long before = object.digest();
        try {
            run.run();
            wrong(call + " throws nothing, due is " + due.getName());
        } catch (RuntimeException e) {
            if (e.getClass() != due) {
                wrong(call + " throws " + e + ", due is " + due.getName());
            }
        }
        same("digest() behind the refused " + call, object.digest(), before);
    }

    /** The call changes nothing that the object tells. */
    void changesNothing(FiguredBass object, String call, Runnable run) {
        long before = object.digest();
        run.run();
        same("digest() behind " + call, object.digest(), before);
    }

    void finish() {
        System.out.println(asked + " answers compared, " + wrong + " wrong");
        if (asked == 0 || wrong > 0) {
            System.exit(1);
        }
    }

    private void wrong(String text) {
        wrong++;
        System.out.println(sentence + text);
    }
}
