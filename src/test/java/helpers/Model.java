import java.util.ArrayList;
import java.util.HashSet;
import java.util.List;
import java.util.Set;
import java.util.TreeSet;

/**
 * The document told once more, as slowly and plainly as can be, and written apart from the class:
 * nothing is kept but what calls set, and whatever is searched is searched through whole ranges.
 */
final class Model {
    static final int[][] RANGES = {{0, 13}, {5, 14}, {8, 18}, {12, 22}};
    private static final List<Set<Integer>> FIGURES = List.of(
        Set.of(2, 4), Set.of(2, 5), Set.of(3, 5), Set.of(2, 4, 6), Set.of(3, 4), Set.of(2, 4, 5));

    /** A chord: {figure, bass, tenor, alto, soprano}; null for none. */
    private final List<Integer[]> row = new ArrayList<>();
    private final int[] weights = {2, 2, 2, 2, 2, 2, 2, 2};
    private boolean minor = false;

    int chord(int bass, int figure) {
        need(in(bass, 0, 13) && in(figure, 0, 5));
        if (row.size() == 12) {
            throw new IllegalStateException();
        }
        row.add(new Integer[] {figure, bass, null, null, null});
        return row.size() - 1;
    }

    int setBass(int chord, int bass) {
        index(chord);
        need(in(bass, 0, 13));
        return swap(chord, 1, bass);
    }

    int setFigure(int chord, int figure) {
        index(chord);
        need(in(figure, 0, 5));
        return swap(chord, 0, figure);
    }

    int put(int chord, int voice, int note) {
        index(chord);
        index(voice, 1, 3);
        need(note == -1 || in(note, RANGES[voice][0], RANGES[voice][1]));
        Integer before = row.get(chord)[1 + voice];
        row.get(chord)[1 + voice] = note == -1 ? null : (Integer) note;
        return before == null ? -1 : before;
    }

    int drop() {
        if (row.isEmpty()) {
            throw new IllegalStateException();
        }
        row.remove(row.size() - 1);
        return row.size();
    }

    boolean setKey(boolean now) {
        boolean was = minor;
        minor = now;
        return was;
    }

    int setWeight(int fault, int weight) {
        index(fault, 0, 7);
        need(in(weight, 0, 9));
        int before = weights[fault];
        weights[fault] = weight;
        return before;
    }

    int lead(int chord) {
        index(chord);
        if (!leads(chord)) {
            throw new IllegalStateException();
        }
        return cost(chord);
    }

    int leadAll() {
        int led = 0;
        for (int chord = 0; chord < row.size(); chord++) {
            if (leads(chord)) {
                led++;
            }
        }
        return led;
    }

    int note(int chord, int voice) {
        index(chord);
        index(voice, 0, 3);
        Integer note = row.get(chord)[1 + voice];
        return note == null ? -1 : note;
    }

    int told(int chord, int what) {
        index(chord);
        index(what, 0, 5);
        int[] all = {row.get(chord)[0], row.get(chord)[1] % 7, set(chord) ? 1 : 0, right(chord) ? 1 : 0,
            steps(chord), cost(chord)};
        return all[what];
    }

    int faults(int chord, int fault) {
        index(chord);
        index(fault, 0, 7);
        return fault(chord, fault);
    }

    int count(int what) {
        index(what, 0, 6);
        int[] all = {row.size(), 0, 0, 0, 0, 0, minor ? 1 : 0};
        for (int chord = 0; chord < row.size(); chord++) {
            all[1] += set(chord) ? 1 : 0;
            all[2] += right(chord) ? 1 : 0;
            all[3] += steps(chord);
            for (int fault = 0; fault < 8; fault++) {
                all[4] += fault(chord, fault);
            }
            all[5] += cost(chord);
        }
        return all[what];
    }

    int pitch(int note) {
        need(in(note, 0, 27));
        String degrees = minor ? "023578b" : "024579b";
        return 12 * (note / 7) + Character.digit(degrees.charAt(note % 7), 16);
    }

    boolean fits(int chord, int voice, int note) {
        index(chord);
        index(voice, 1, 3);
        need(in(note, 0, 27));
        return in(note, RANGES[voice][0], RANGES[voice][1]) && belongs(chord, note);
    }

    int ways(int chord) {
        index(chord);
        return allWays(chord).size();
    }

    int would(int chord, int voice, int note) {
        int before = put(chord, voice, note);
        int cost = count(5);
        put(chord, voice, before);
        return cost;
    }

    int best(int chord) {
        index(chord);
        Integer[] kept = row.get(chord).clone();
        int best = -1;
        if (leads(chord)) {
            best = 784 * row.get(chord)[2] + 28 * row.get(chord)[3] + row.get(chord)[4];
        }
        row.set(chord, kept);
        return best;
    }

    int advise(int chord) {
        index(chord);
        Integer[] kept = row.get(chord).clone();
        TreeSet<Integer> found = new TreeSet<>();
        for (int figure = 0; figure < 6; figure++) {
            row.get(chord)[0] = figure;
            if (leads(chord)) {
                found.add(together(chord) * 10 + figure);
            }
        }
        row.set(chord, kept);
        return found.isEmpty() ? -1 : found.first() % 10;
    }

    double mean() {
        return count(1) == 0 ? 0 : count(5) / (double) count(1);
    }

    long digest() {
        List<Integer> numbers = new ArrayList<>();
        for (int what = 0; what < 7; what++) {
            numbers.add(count(what));
        }
        for (int weight : weights) {
            numbers.add(weight);
        }
        for (int chord = 0; chord < row.size(); chord++) {
            for (int voice = 0; voice < 4; voice++) {
                numbers.add(note(chord, voice));
            }
            for (int what = 0; what < 6; what++) {
                numbers.add(told(chord, what));
            }
            for (int fault = 0; fault < 8; fault++) {
                numbers.add(fault(chord, fault));
            }
            numbers.add(ways(chord));
        }
        long d = 1693;
        for (int x : numbers) {
            d = d * 31 + x;
        }
        return d;
    }

    private static boolean in(int x, int low, int high) {
        return low <= x && x <= high;
    }

    private static void need(boolean holds) {
        if (!holds) {
            throw new IllegalArgumentException();
        }
    }

    private static void index(int x, int low, int high) {
        if (!in(x, low, high)) {
            throw new IndexOutOfBoundsException();
        }
    }

    private void index(int chord) {
        index(chord, 0, row.size() - 1);
    }

    private int swap(int chord, int place, int now) {
        int before = row.get(chord)[place];
        row.get(chord)[place] = now;
        return before;
    }

    private int step(int chord, int note) {
        return Math.floorMod(note - row.get(chord)[1], 7);
    }

    private boolean belongs(int chord, int note) {
        int step = step(chord, note);
        return step == 0 || FIGURES.get(row.get(chord)[0]).contains(step);
    }

    private boolean set(int chord) {
        for (Integer number : row.get(chord)) {
            if (number == null) {
                return false;
            }
        }
        return true;
    }

    private boolean right(int chord) {
        if (!set(chord)) {
            return false;
        }
        Integer[] c = row.get(chord);
        Set<Integer> steps = new HashSet<>();
        for (int place = 2; place < 5; place++) {
            if (!belongs(chord, c[place]) || c[place] < c[place - 1]) {
                return false;
            }
            steps.add(step(chord, c[place]));
        }
        return steps.containsAll(FIGURES.get(c[0]));
    }

    private boolean bothSet(int chord) {
        return chord > 0 && set(chord) && set(chord - 1);
    }

    private int steps(int chord) {
        int steps = 0;
        for (int place = 2; place < 5 && bothSet(chord); place++) {
            steps += Math.abs(row.get(chord)[place] - row.get(chord - 1)[place]);
        }
        return steps;
    }

    private int cost(int chord) {
        if (!set(chord)) {
            return 0;
        }
        int cost = right(chord) ? 0 : 30;
        for (int fault = 0; fault < 8; fault++) {
            cost += weights[fault] * fault(chord, fault);
        }
        return cost + steps(chord);
    }

    private int together(int chord) {
        return cost(chord) + (chord + 1 < row.size() ? cost(chord + 1) : 0);
    }

    private boolean fifth(Integer[] c, int low, int high) {
        int differ = pitch(c[1 + high]) - pitch(c[1 + low]);
        for (int fifth = 7; fifth < 60; fifth += 12) {
            if (differ == fifth) {
                return true;
            }
        }
        return false;
    }

    private boolean octave(Integer[] c, int low, int high) {
        int differ = Math.abs(pitch(c[1 + high]) - pitch(c[1 + low]));
        return differ == 0 || differ == 12 || differ == 24 || differ == 36;
    }

    private int fault(int chord, int fault) {
        if (!bothSet(chord)) {
            return 0;
        }
        Integer[] was = row.get(chord - 1);
        Integer[] is = row.get(chord);
        if (fault == 2) {
            int bass = is[1] - was[1];
            int soprano = is[4] - was[4];
            return bass * soprano > 0 && Math.abs(soprano) > 1 && (fifth(is, 0, 3) || octave(is, 0, 3)) ? 1 : 0;
        }
        int found = 0;
        for (int low = 0; low < 4; low++) {
            for (int high = low + 1; high < 4; high++) {
                boolean move = !is[1 + low].equals(was[1 + low]) && !is[1 + high].equals(was[1 + high]);
                boolean fifths = fifth(is, low, high) && fifth(was, low, high);
                boolean octaves = octave(is, low, high) && octave(was, low, high);
                found += move && (fault == 0 && fifths || fault == 1 && octaves) ? 1 : 0;
            }
        }
        for (int place = 2; place < 5; place++) {
            int by = is[place] - was[place];
            int stepWas = step(chord - 1, was[place]);
            int stepIs = step(chord, is[place]);
            found += fault == 3 && is[0] == 4 && stepIs == 3 && by != 0 ? 1 : 0;
            found += fault == 4 && was[0] == 4 && stepWas == 3 && by != -1 ? 1 : 0;
            found += fault == 5 && is[1] % 7 == 0 && was[place] % 7 == 6 && by != 1 ? 1 : 0;
            found += fault == 6 && was[0] == 3 && stepWas == 6 && by != 0 && by != -1 ? 1 : 0;
            found += fault == 7 && Math.abs(by) > 4 ? 1 : 0;
        }
        return found;
    }

    private List<int[]> allWays(int chord) {
        Integer[] kept = row.get(chord).clone();
        List<int[]> ways = new ArrayList<>();
        for (int tenor = 0; tenor < 28; tenor++) {
            for (int alto = 0; alto < 28; alto++) {
                for (int soprano = 0; soprano < 28; soprano++) {
                    if (in(tenor, 5, 14) && in(alto, 8, 18) && in(soprano, 12, 22)) {
                        row.set(chord, new Integer[] {kept[0], kept[1], tenor, alto, soprano});
                        if (right(chord)) {
                            ways.add(new int[] {tenor, alto, soprano});
                        }
                    }
                }
            }
        }
        row.set(chord, kept);
        return ways;
    }

    /** Puts the notes with which the row is cheapest there; returns whether there are any. */
    private boolean leads(int chord) {
        Integer[] best = null;
        int least = 0;
        Integer[] kept = row.get(chord);
        // From the highest to the lowest, so that of several the lowest one is left.
        List<int[]> ways = allWays(chord);
        for (int k = ways.size() - 1; k >= 0; k--) {
            int[] way = ways.get(k);
            row.set(chord, new Integer[] {kept[0], kept[1], way[0], way[1], way[2]});
            if (best == null || together(chord) <= least) {
                best = row.get(chord);
                least = together(chord);
            }
        }
        row.set(chord, best == null ? kept : best);
        return best != null;
    }
}
