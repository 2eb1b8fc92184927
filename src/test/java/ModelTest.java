import java.util.Random;
import java.util.function.Supplier;

/** Runs of calls, the same at each time, on the class and on the model: all answers are alike. */
public final class ModelTest {
    private static final int RUNS = 400;
    private static final int CALLS = 500;

    private static final int[] FAR_OFF = {Integer.MIN_VALUE, -1000, 1000, Integer.MAX_VALUE - 1, Integer.MAX_VALUE};

    private static int compared = 0;
    private static int wrong = 0;

    public static void main(String[] args) {
        allFiguresAndBasses();
        for (int run = 0; run < RUNS; run++) {
            run(run);
        }
        System.out.println(compared + " answers compared, " + wrong + " wrong");
        if (wrong > 0) {
            System.exit(1);
        }
    }

    /** Each figure above each bass, and what is advised there. */
    private static void allFiguresAndBasses() {
        for (int bass = 0; bass < 14; bass++) {
            FiguredBass x = new FiguredBass();
            Model m = new Model();
            same("chord", x.chord(bass, 0), m.chord(bass, 0));
            for (int figure = 0; figure < 6; figure++) {
                String call = "bass " + bass + ", figure " + figure;
                same(call, x.setFigure(0, figure), m.setFigure(0, figure));
                same(call + ": ways", x.ways(0), m.ways(0));
                same(call + ": best", x.best(0), m.best(0));
                same(call + ": advise", x.advise(0), m.advise(0));
            }
        }
    }

    private static void run(int run) {
        Random random = new Random(run);
        FiguredBass x = new FiguredBass();
        Model m = new Model();
        // Some runs keep to the arguments that are allowed, so that rows are led for long.
        boolean tame = run % 2 == 0;
        for (int call = 0; call < CALLS; call++) {
            int wrongBefore = wrong;
            step(x, m, random, tame);
            if (wrong > wrongBefore) {
                System.out.println("the wrong one was call " + call + " of run " + run);
                return;
            }
        }
        same("digest() at the end of run " + run, x.digest(), m.digest());
    }

    private static String step(FiguredBass x, Model m, Random random, boolean tame) {
        int size = m.count(0);
        int chord = tame && size > 0 ? random.nextInt(size) : wild(random, 13);
        int voice = tame ? 1 + random.nextInt(3) : wild(random, 4);
        int note = noteFor(random, voice, tame);
        int figure = tame ? random.nextInt(6) : wild(random, 6);
        int bass = tame ? random.nextInt(14) : wild(random, 14);
        int fault = tame ? random.nextInt(8) : wild(random, 8);
        int what = wild(random, 7);
        int weight = tame ? random.nextInt(10) : wild(random, 10);
        boolean minor = random.nextBoolean();
        String at = "(" + chord + ", " + voice + ", " + note + ")";
        switch (random.nextInt(26)) {
            case 0: case 1: case 2:
                return same("chord" + bass + "/" + figure, () -> x.chord(bass, figure), () -> m.chord(bass, figure));
            case 3:
                return same("setBass" + at + bass, () -> x.setBass(chord, bass), () -> m.setBass(chord, bass));
            case 4:
                return same("setFigure" + at + figure, () -> x.setFigure(chord, figure),
                    () -> m.setFigure(chord, figure));
            case 5: case 6: case 7:
                return same("put" + at, () -> x.put(chord, voice, note), () -> m.put(chord, voice, note));
            case 8:
                return random.nextInt(3) > 0 ? "" : same("drop", () -> x.drop(), () -> m.drop());
            case 9:
                return same("setKey " + minor, () -> x.setKey(minor), () -> m.setKey(minor));
            case 10:
                return same("setWeight" + fault + "/" + weight, () -> x.setWeight(fault, weight),
                    () -> m.setWeight(fault, weight));
            case 11: case 12:
                return same("lead" + at, () -> x.lead(chord), () -> m.lead(chord));
            case 13:
                return random.nextInt(8) > 0 ? "" : same("leadAll", () -> x.leadAll(), () -> m.leadAll());
            case 14:
                return same("note" + at, () -> x.note(chord, voice), () -> m.note(chord, voice));
            case 15:
                return same("told" + at + what, () -> x.told(chord, what), () -> m.told(chord, what));
            case 16: case 17:
                return same("faults" + at + fault, () -> x.faults(chord, fault), () -> m.faults(chord, fault));
            case 18:
                return same("count " + what, () -> x.count(what), () -> m.count(what));
            case 19:
                return same("pitch " + note, () -> x.pitch(note), () -> m.pitch(note));
            case 20:
                return same("fits" + at, () -> x.fits(chord, voice, note), () -> m.fits(chord, voice, note));
            case 21:
                return same("ways" + at, () -> x.ways(chord), () -> m.ways(chord));
            case 22:
                return same("would" + at, () -> x.would(chord, voice, note), () -> m.would(chord, voice, note));
            case 23:
                return same("best" + at, () -> x.best(chord), () -> m.best(chord));
            case 24:
                return same("advise" + at, () -> x.advise(chord), () -> m.advise(chord));
            default:
                same("mean", () -> x.mean(), () -> m.mean());
                return random.nextInt(4) > 0 ? "" : same("digest", () -> x.digest(), () -> m.digest());
        }
    }

    private static int noteFor(Random random, int voice, boolean tame) {
        if (tame && voice >= 1 && voice <= 3 && random.nextInt(8) > 0) {
            int low = Model.RANGES[voice][0];
            return low + random.nextInt(Model.RANGES[voice][1] - low + 1);
        }
        return tame ? -1 : wild(random, 28);
    }

    /** From just below 0 to just above the highest one, and now and then as far off as can be. */
    private static int wild(Random random, int numbers) {
        return random.nextInt(40) > 0 ? random.nextInt(numbers + 3) - 2 : FAR_OFF[random.nextInt(FAR_OFF.length)];
    }

    private static String same(String call, Supplier<Object> got, Supplier<Object> due) {
        return same(call, answer(got), answer(due));
    }

    private static String same(String call, Object got, Object due) {
        compared++;
        String text = call + " answered " + got + ", due is " + due;
        if (!got.equals(due)) {
            wrong++;
            System.out.println(text);
        }
        return text;
    }

    private static Object answer(Supplier<Object> call) {
        try {
            return call.get();
        } catch (RuntimeException e) {
            return "throws." + e.getClass().getSimpleName();
        }
    }
}
