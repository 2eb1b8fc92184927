/** A row of basses with figures, to which tenor, alto and soprano are put by hand or led by rules. */
public final class FiguredBass {
    private static final int MOST_CHORDS = 12;
    private static final int VOICES = 4;
    private static final int BASS = 0;
    private static final int TENOR = 1;
    private static final int ALTO = 2;
    private static final int SOPRANO = 3;
    private static final int NONE = -1;

    private static final int NOTES = 28;
    private static final int DEGREES = 7;
    private static final int[] MAJOR = {0, 2, 4, 5, 7, 9, 11};
    private static final int[] MINOR = {0, 2, 3, 5, 7, 8, 11};
    private static final int FIFTH = 7;
    private static final int OCTAVE = 12;

    /** The range of each voice, by its number. */
    private static final int[] LOWEST = {0, 5, 8, 12};
    private static final int[] HIGHEST = {13, 14, 18, 22};

    /** The steps that belong to each figure, a bit for each; the step 0 belongs to all of them. */
    private static final int[] FIGURE_STEPS = {
        0b0010101, 0b0100101, 0b0101001, 0b1010101, 0b0011001, 0b0110101
    };
    private static final int SEVENTH_FIGURE = 3;
    private static final int FOURTH_FIGURE = 4;

    private static final int FAULTS = 8;
    private static final int HIGHEST_WEIGHT = 9;
    private static final int FIRST_WEIGHT = 2;
    private static final int WRONG_COST = 30;

    private static final int TOLD = 6;
    private static final int COUNTS = 7;

    /** A way is one number: its order is that of the tenors, then the altos, then the sopranos. */
    private static final int WAY_TENOR = 784;
    private static final int WAY_ALTO = 28;

    /**
     * No chord has more ways: a figure gives its steps to three voices in at most 12 orders,
     * and no upper voice has more than two notes of one step.
     */
    private static final int MOST_WAYS = 96;

    private static final long DIGEST_START = 1693L;
    private static final long DIGEST_FACTOR = 31L;

    private int size;
    private boolean inMinor;
    private final int[] figures;
    /** Four for each chord, by voices, the bass among them. */
    private final int[] notes;
    private final int[] weights;
    /** Room for the ways of one chord, made once, as it is needed at every leading. */
    private final int[] wayList;

    public FiguredBass() {
        size = 0;
        inMinor = false;
        figures = new int[MOST_CHORDS];
        notes = new int[MOST_CHORDS * VOICES];
        weights = new int[FAULTS];
        wayList = new int[MOST_WAYS];
        for (int fault = 0; fault < FAULTS; fault++) {
            weights[fault] = FIRST_WEIGHT;
        }
    }

    // ---- the row.

    /** Adds a chord to the end of the row; returns its number. */
    public int chord(int bass, int figure) throws IllegalArgumentException, IllegalStateException {
        if (!isNoteOf(BASS, bass)) {
            throw new IllegalArgumentException("the bass is not 0 to 13");
        }
        if (!isFigure(figure)) {
            throw new IllegalArgumentException("the figure is not 0 to 5");
        }
        if (size >= MOST_CHORDS) {
            throw new IllegalStateException("there are 12 chords");
        }
        int chord = size;
        size++;
        figures[chord] = figure;
        notes[chord * VOICES] = bass;
        putNotes(chord, NONE, NONE, NONE);
        return chord;
    }

    /** Sets the bass of a chord; returns that before. */
    public int setBass(int chord, int bass) throws IndexOutOfBoundsException, IllegalArgumentException {
        if (!isChord(chord)) {
            throw new IndexOutOfBoundsException("there is no such chord");
        }
        if (!isNoteOf(BASS, bass)) {
            throw new IllegalArgumentException("the bass is not 0 to 13");
        }
        return exchangeNote(chord, BASS, bass);
    }

    /** Sets the figure of a chord; returns that before. */
    public int setFigure(int chord, int figure) throws IndexOutOfBoundsException, IllegalArgumentException {
        if (!isChord(chord)) {
            throw new IndexOutOfBoundsException("there is no such chord");
        }
        if (!isFigure(figure)) {
            throw new IllegalArgumentException("the figure is not 0 to 5");
        }
        int before = figures[chord];
        figures[chord] = figure;
        return before;
    }

    /** Puts a note into a chord by hand, or takes it away with -1; returns that before. */
    public int put(int chord, int voice, int note) throws IndexOutOfBoundsException, IllegalArgumentException {
        if (!isChord(chord) || !isUpperVoice(voice)) {
            throw new IndexOutOfBoundsException("there is no such chord or upper voice");
        }
        if (note != NONE && !isNoteOf(voice, note)) {
            throw new IllegalArgumentException("the note is none of this voice");
        }
        return exchangeNote(chord, voice, note);
    }

    /** Takes the last chord off the row; returns how many there are then. */
    public int drop() throws IllegalStateException {
        if (size <= 0) {
            throw new IllegalStateException("there is no chord");
        }
        size--;
        return size;
    }

    /** Sets whether the scale is in minor; returns whether it was. */
    public boolean setKey(boolean minor) {
        boolean before = inMinor;
        inMinor = minor;
        return before;
    }

    /** Sets the weight of a kind of fault; returns that before. */
    public int setWeight(int fault, int weight) throws IndexOutOfBoundsException, IllegalArgumentException {
        if (!isFault(fault)) {
            throw new IndexOutOfBoundsException("the fault is not 0 to 7");
        }
        if (weight < 0 || weight > HIGHEST_WEIGHT) {
            throw new IllegalArgumentException("the weight is not 0 to 9");
        }
        int before = weights[fault];
        weights[fault] = weight;
        return before;
    }

    /** Leads a chord; returns its cost then. */
    public int lead(int chord) throws IndexOutOfBoundsException, IllegalStateException {
        if (!isChord(chord)) {
            throw new IndexOutOfBoundsException("there is no such chord");
        }
        int way = bestWay(chord);
        if (way < 0) {
            throw new IllegalStateException("there are no notes by which the chord is right");
        }
        putWay(chord, way);
        return costOf(chord);
    }

    /** Leads all chords that can be led, from 0 on; returns how many. */
    public int leadAll() {
        int led = 0;
        for (int chord = 0; chord < size; chord++) {
            int way = bestWay(chord);
            if (way >= 0) {
                putWay(chord, way);
                led++;
            }
        }
        return led;
    }

    // ---- what there is.

    /** Returns the note of a voice in a chord, -1 for none. */
    public int note(int chord, int voice) throws IndexOutOfBoundsException {
        if (!isChord(chord) || voice < 0 || voice >= VOICES) {
            throw new IndexOutOfBoundsException("there is no such chord or voice");
        }
        return noteAt(chord, voice);
    }

    /** Tells of a chord: 0 figure, 1 degree of the bass, 2 set, 3 right, 4 steps gone, 5 cost. */
    public int told(int chord, int what) throws IndexOutOfBoundsException {
        if (!isChord(chord) || what < 0 || what >= TOLD) {
            throw new IndexOutOfBoundsException("there is no such chord, or what is not 0 to 5");
        }
        return tellOf(chord, what);
    }

    /** Returns how many faults of a kind there are of a chord and the one ahead of it. */
    public int faults(int chord, int fault) throws IndexOutOfBoundsException {
        if (!isChord(chord) || !isFault(fault)) {
            throw new IndexOutOfBoundsException("there is no such chord, or the fault is not 0 to 7");
        }
        return faultsOf(chord, fault);
    }

    /** Counts in the row: 0 chords, 1 set, 2 right, 3 steps, 4 faults, 5 cost; and 6 tells minor. */
    public int count(int what) throws IndexOutOfBoundsException {
        if (what < 0 || what >= COUNTS) {
            throw new IndexOutOfBoundsException("what is not 0 to 6");
        }
        return countOf(what);
    }

    /** Returns the pitch of a note in the key as it is. */
    public int pitch(int note) throws IllegalArgumentException {
        if (!isNote(note)) {
            throw new IllegalArgumentException("the note is not 0 to 27");
        }
        return pitchOf(note);
    }

    /** Returns whether a note is one of an upper voice, and belongs to a chord. */
    public boolean fits(int chord, int voice, int note) throws IndexOutOfBoundsException, IllegalArgumentException {
        if (!isChord(chord) || !isUpperVoice(voice)) {
            throw new IndexOutOfBoundsException("there is no such chord or upper voice");
        }
        if (!isNote(note)) {
            throw new IllegalArgumentException("the note is not 0 to 27");
        }
        return isNoteOf(voice, note) && belongs(chord, note);
    }

    /** Returns in how many ways notes can be put to a chord so that it is right. */
    public int ways(int chord) throws IndexOutOfBoundsException {
        if (!isChord(chord)) {
            throw new IndexOutOfBoundsException("there is no such chord");
        }
        return listWays(chord);
    }

    // ---- what would be.

    /** Returns the cost of all chords as it would be behind put(). */
    public int would(int chord, int voice, int note) throws IndexOutOfBoundsException, IllegalArgumentException {
        if (!isChord(chord) || !isUpperVoice(voice)) {
            throw new IndexOutOfBoundsException("there is no such chord or upper voice");
        }
        if (note != NONE && !isNoteOf(voice, note)) {
            throw new IllegalArgumentException("the note is none of this voice");
        }
        int before = exchangeNote(chord, voice, note);
        int cost = countOf(5);
        exchangeNote(chord, voice, before);
        return cost;
    }

    /** Returns the notes that lead() would put, as one number; -1 if the chord cannot be led. */
    public int best(int chord) throws IndexOutOfBoundsException {
        if (!isChord(chord)) {
            throw new IndexOutOfBoundsException("there is no such chord");
        }
        return bestWay(chord);
    }

    /** Returns the figure that a chord had best have; -1 if it cannot be led with any. */
    public int advise(int chord) throws IndexOutOfBoundsException {
        if (!isChord(chord)) {
            throw new IndexOutOfBoundsException("there is no such chord");
        }
        int figureBefore = figures[chord];
        int tenor = noteAt(chord, TENOR);
        int alto = noteAt(chord, ALTO);
        int soprano = noteAt(chord, SOPRANO);
        int advised = NONE;
        int least = 0;
        for (int figure = 0; figure < FIGURE_STEPS.length; figure++) {
            figures[chord] = figure;
            int way = bestWay(chord);
            if (way >= 0) {
                putWay(chord, way);
                int together = costOf(chord) + costOf(chord + 1);
                if (advised < 0 || together < least) {
                    advised = figure;
                    least = together;
                }
            }
        }
        figures[chord] = figureBefore;
        putNotes(chord, tenor, alto, soprano);
        return advised;
    }

    /** Returns the mean cost of all chords that are set; 0 without any. */
    public double mean() {
        int set = countOf(1);
        return set == 0 ? 0.0 : (double) countOf(5) / (double) set;
    }

    /** Computes a checksum of all that the object tells. */
    public long digest() {
        long digest = DIGEST_START;
        for (int what = 0; what < COUNTS; what++) {
            digest = digest * DIGEST_FACTOR + countOf(what);
        }
        for (int fault = 0; fault < FAULTS; fault++) {
            digest = digest * DIGEST_FACTOR + weights[fault];
        }
        for (int chord = 0; chord < size; chord++) {
            for (int voice = BASS; voice < VOICES; voice++) {
                digest = digest * DIGEST_FACTOR + noteAt(chord, voice);
            }
            for (int what = 0; what < TOLD; what++) {
                digest = digest * DIGEST_FACTOR + tellOf(chord, what);
            }
            for (int fault = 0; fault < FAULTS; fault++) {
                digest = digest * DIGEST_FACTOR + faultsOf(chord, fault);
            }
            digest = digest * DIGEST_FACTOR + listWays(chord);
        }
        return digest;
    }

    // ---- tests of what is given.

    private boolean isChord(int chord) {
        return chord >= 0 && chord < size;
    }

    private static boolean isUpperVoice(int voice) {
        return voice >= TENOR && voice <= SOPRANO;
    }

    private static boolean isFigure(int figure) {
        return figure >= 0 && figure < FIGURE_STEPS.length;
    }

    private static boolean isFault(int fault) {
        return fault >= 0 && fault < FAULTS;
    }

    private static boolean isNote(int note) {
        return note >= 0 && note < NOTES;
    }

    private static boolean isNoteOf(int voice, int note) {
        return note >= LOWEST[voice] && note <= HIGHEST[voice];
    }

    // ---- notes.

    private int noteAt(int chord, int voice) {
        return notes[chord * VOICES + voice];
    }

    private int exchangeNote(int chord, int voice, int note) {
        int before = notes[chord * VOICES + voice];
        notes[chord * VOICES + voice] = note;
        return before;
    }

    private void putNotes(int chord, int tenor, int alto, int soprano) {
        notes[chord * VOICES + TENOR] = tenor;
        notes[chord * VOICES + ALTO] = alto;
        notes[chord * VOICES + SOPRANO] = soprano;
    }

    private void putWay(int chord, int way) {
        putNotes(chord, way / WAY_TENOR, way / WAY_ALTO % WAY_ALTO, way % WAY_ALTO);
    }

    private int pitchOf(int note) {
        int degree = note % DEGREES;
        return OCTAVE * (note / DEGREES) + (inMinor ? MINOR[degree] : MAJOR[degree]);
    }

    private static int stepAbove(int bass, int note) {
        int step = (note - bass) % DEGREES;
        return step < 0 ? step + DEGREES : step;
    }

    private boolean moves(int chord, int voice) {
        return noteAt(chord, voice) != noteAt(chord - 1, voice);
    }

    // ---- chords.

    private boolean belongs(int chord, int note) {
        int step = 1 << stepAbove(noteAt(chord, BASS), note);
        return (FIGURE_STEPS[figures[chord]] & step) != 0;
    }

    /** A chord that is not in the row is not set: so the ends of the row need no case of their own. */
    private boolean isSet(int chord) {
        return isChord(chord)
            && noteAt(chord, TENOR) != NONE
            && noteAt(chord, ALTO) != NONE
            && noteAt(chord, SOPRANO) != NONE;
    }

    private boolean isRight(int chord) {
        return isSet(chord)
            && isRightWith(chord, noteAt(chord, TENOR), noteAt(chord, ALTO), noteAt(chord, SOPRANO));
    }

    private boolean isRightWith(int chord, int tenor, int alto, int soprano) {
        int bass = noteAt(chord, BASS);
        if (tenor < bass || alto < tenor || soprano < alto) {
            return false;
        }
        // The bass itself gives the step 0, which the upper voices may leave out.
        int steps = 1;
        steps |= 1 << stepAbove(bass, tenor);
        steps |= 1 << stepAbove(bass, alto);
        steps |= 1 << stepAbove(bass, soprano);
        return steps == FIGURE_STEPS[figures[chord]];
    }

    /** Whether faults and steps can be told of this chord: both it and the one ahead are set. */
    private boolean follows(int chord) {
        return isSet(chord) && isSet(chord - 1);
    }

    private int stepsGone(int chord) {
        if (!follows(chord)) {
            return 0;
        }
        int steps = 0;
        for (int voice = TENOR; voice <= SOPRANO; voice++) {
            steps += Math.abs(noteAt(chord, voice) - noteAt(chord - 1, voice));
        }
        return steps;
    }

    private int costOf(int chord) {
        if (!isSet(chord)) {
            return 0;
        }
        int cost = isRight(chord) ? 0 : WRONG_COST;
        cost += stepsGone(chord);
        for (int fault = 0; fault < FAULTS; fault++) {
            cost += weights[fault] * faultsOf(chord, fault);
        }
        return cost;
    }

    // ---- faults.

    private int faultsOf(int chord, int fault) {
        if (!follows(chord)) {
            return 0;
        }
        switch (fault) {
            case 0:
                return parallels(chord, FIFTH);
            case 1:
                return parallels(chord, 0);
            case 2:
                return isHidden(chord) ? 1 : 0;
            default:
                return voicesAtFault(chord, fault);
        }
    }

    private int parallels(int chord, int interval) {
        int pairs = 0;
        for (int low = BASS; low < SOPRANO; low++) {
            for (int high = low + 1; high <= SOPRANO; high++) {
                if (moves(chord, low) && moves(chord, high)
                    && isInterval(chord, low, high, interval)
                    && isInterval(chord - 1, low, high, interval)) {
                    pairs++;
                }
            }
        }
        return pairs;
    }

    private boolean isInterval(int chord, int low, int high, int interval) {
        int differ = pitchOf(noteAt(chord, high)) - pitchOf(noteAt(chord, low));
        // A remainder has the sign of what is divided: crossed voices are octaves, but never a fifth.
        return differ % OCTAVE == interval;
    }

    private boolean isHidden(int chord) {
        int bassGoes = noteAt(chord, BASS) - noteAt(chord - 1, BASS);
        int sopranoGoes = noteAt(chord, SOPRANO) - noteAt(chord - 1, SOPRANO);
        boolean bothUp = bassGoes > 0 && sopranoGoes >= 2;
        boolean bothDown = bassGoes < 0 && sopranoGoes <= -2;
        if (!bothUp && !bothDown) {
            return false;
        }
        return isInterval(chord, BASS, SOPRANO, FIFTH) || isInterval(chord, BASS, SOPRANO, 0);
    }

    private int voicesAtFault(int chord, int fault) {
        int voices = 0;
        for (int voice = TENOR; voice <= SOPRANO; voice++) {
            if (isAtFault(chord, voice, fault)) {
                voices++;
            }
        }
        return voices;
    }

    private boolean isAtFault(int chord, int voice, int fault) {
        int ahead = chord - 1;
        int from = noteAt(ahead, voice);
        int to = noteAt(chord, voice);
        int goes = to - from;
        switch (fault) {
            case 3:
                return figures[chord] == FOURTH_FIGURE && stepAbove(noteAt(chord, BASS), to) == 3 && goes != 0;
            case 4:
                return figures[ahead] == FOURTH_FIGURE && stepAbove(noteAt(ahead, BASS), from) == 3 && goes != -1;
            case 5:
                return noteAt(chord, BASS) % DEGREES == 0 && from % DEGREES == 6 && goes != 1;
            case 6:
                return figures[ahead] == SEVENTH_FIGURE && stepAbove(noteAt(ahead, BASS), from) == 6
                    && goes != 0 && goes != -1;
            case 7:
                return goes > 4 || goes < -4;
            default:
                return false;
        }
    }

    private int allFaultsOf(int chord) {
        int sum = 0;
        for (int fault = 0; fault < FAULTS; fault++) {
            sum += faultsOf(chord, fault);
        }
        return sum;
    }

    // ---- leading.

    /** Lists all ways by which a chord is right, the smallest first; returns how many. */
    private int listWays(int chord) {
        int listed = 0;
        for (int tenor = LOWEST[TENOR]; tenor <= HIGHEST[TENOR]; tenor++) {
            if (belongs(chord, tenor)) {
                for (int alto = Math.max(tenor, LOWEST[ALTO]); alto <= HIGHEST[ALTO]; alto++) {
                    if (belongs(chord, alto)) {
                        listed = listSopranos(chord, tenor, alto, listed);
                    }
                }
            }
        }
        return listed;
    }

    private int listSopranos(int chord, int tenor, int alto, int listedBefore) {
        int listed = listedBefore;
        for (int soprano = Math.max(alto, LOWEST[SOPRANO]); soprano <= HIGHEST[SOPRANO]; soprano++) {
            if (isRightWith(chord, tenor, alto, soprano) && listed < wayList.length) {
                wayList[listed] = tenor * WAY_TENOR + alto * WAY_ALTO + soprano;
                listed++;
            }
        }
        return listed;
    }

    /** Returns the way by which a chord is led, -1 if there is none; the chord keeps its notes. */
    private int bestWay(int chord) {
        int tenor = noteAt(chord, TENOR);
        int alto = noteAt(chord, ALTO);
        int soprano = noteAt(chord, SOPRANO);
        int listed = listWays(chord);
        int best = NONE;
        int least = 0;
        for (int k = 0; k < listed && k < wayList.length; k++) {
            putWay(chord, wayList[k]);
            int together = costOf(chord) + costOf(chord + 1);
            if (best < 0 || together < least) {
                best = wayList[k];
                least = together;
            }
        }
        putNotes(chord, tenor, alto, soprano);
        return best;
    }

    // ---- what is told.

    private int tellOf(int chord, int what) {
        switch (what) {
            case 0:
                return figures[chord];
            case 1:
                return noteAt(chord, BASS) % DEGREES;
            case 2:
                return isSet(chord) ? 1 : 0;
            case 3:
                return isRight(chord) ? 1 : 0;
            case 4:
                return stepsGone(chord);
            default:
                return costOf(chord);
        }
    }

    private int countOf(int what) {
        if (what == 6) {
            return inMinor ? 1 : 0;
        }
        int sum = 0;
        for (int chord = 0; chord < size; chord++) {
            switch (what) {
                case 0:
                    sum++;
                    break;
                case 1:
                    sum += isSet(chord) ? 1 : 0;
                    break;
                case 2:
                    sum += isRight(chord) ? 1 : 0;
                    break;
                case 3:
                    sum += stepsGone(chord);
                    break;
                case 4:
                    sum += allFaultsOf(chord);
                    break;
                default:
                    sum += costOf(chord);
                    break;
            }
        }
        return sum;
    }
}
