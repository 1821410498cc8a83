/**
 * A tracker of pitch in whole numbers.
 *
 * <p>Each step from the sound to the notes is a class of its own below, in their order. Their rows
 * are made once, with the tracker, and used again: what a run makes is counted.
 */
public final class PitchTracker {
    private static final int MOST_SAMPLES = 1024;
    private static final int LONGEST_FEED = 400;
    private static final int LOUDEST = 100;
    private static final int SAW = 0;
    private static final int TRIANGLE = 1;
    private static final int SQUARE = 2;
    private static final int LONGEST_WAVE = 64;

    private static final int FRAME_LENGTH = 128;
    private static final int FRAME_STEP = 32;
    private static final int MOST_FRAMES = 29;
    private static final int WINDOW = 64;
    private static final int HIGHEST_LAG = 64;
    private static final int LOWEST_ONSET = 640;
    private static final int MOST_CANDIDATES = 8;

    private static final int LAG_UNIT = 64;
    private static final int MOST_SHIFT = 32;
    private static final int NAMES = 12;
    private static final int OCTAVES = 7;
    private static final int TEMPERAMENTS = 3;
    private static final int LOWEST_BASE = 64;
    private static final int HIGHEST_BASE = 8192;
    private static final int MOST_COST = 1000;
    private static final int MOST_JUMP = 100;

    /** What a frame without a voice has for a name, an octave and a note. */
    private static final int NONE = -1;
    /** No count of frames: the track has to be found again. */
    private static final int STALE = -1;

    private final Sound sound;
    private final Differences differences;
    private final Candidates candidates;
    private final Track track;
    private final Pitches pitches;
    private final Notes notes;
    /** For how many frames the track and the notes were found, or STALE. */
    private int settledFrames;

    public PitchTracker() {
        sound = new Sound();
        differences = new Differences();
        candidates = new Candidates();
        track = new Track();
        pitches = new Pitches();
        notes = new Notes();
        settledFrames = STALE;
    }

    // ---- sound

    public int feed(int value) throws IllegalArgumentException, IllegalStateException {
        requireRange(value, -LOUDEST, LOUDEST);
        requireRoom(1);
        sound.add(value);
        return sound.count();
    }

    public int feedWave(int shape, int period, int amplitude, int samples)
            throws IllegalArgumentException, IllegalStateException {
        requireRange(shape, SAW, SQUARE);
        requireRange(period, 2, LONGEST_WAVE);
        requireRange(amplitude, 0, LOUDEST);
        requireRange(samples, 1, LONGEST_FEED);
        requireRoom(samples);
        int place = 0;
        for (int i = 0; i < samples; i++) {
            sound.add(waveAt(shape, place, period, amplitude));
            place = place + 1 < period ? place + 1 : 0;
        }
        return sound.count();
    }

    public int feedNoise(int seed, int amplitude, int samples)
            throws IllegalArgumentException, IllegalStateException {
        requireRange(amplitude, 0, LOUDEST);
        requireRange(samples, 1, LONGEST_FEED);
        requireRoom(samples);
        int z = seed;
        for (int i = 0; i < samples; i++) {
            z = z * 1103515245 + 12345;
            sound.add(noiseOf(z, amplitude));
        }
        return sound.count();
    }

    public int clear() {
        int dropped = sound.count();
        sound.drop();
        differences.forget();
        candidates.forget();
        settledFrames = STALE;
        return dropped;
    }

    // ---- settings

    public int setThreshold(int percent) throws IllegalArgumentException {
        requireRange(percent, 1, 100);
        int before = candidates.threshold();
        candidates.useThreshold(percent);
        settledFrames = STALE;
        return before;
    }

    public void setCosts(int unvoiced, int jump, int change) throws IllegalArgumentException {
        requireRange(unvoiced, 0, MOST_COST);
        requireRange(jump, 0, MOST_JUMP);
        requireRange(change, 0, MOST_COST);
        track.useCosts(unvoiced, jump, change);
        settledFrames = STALE;
    }

    public void setTemperament(int temperament, int base) throws IllegalArgumentException {
        requireRange(temperament, 0, TEMPERAMENTS - 1);
        requireRange(base, LOWEST_BASE, HIGHEST_BASE);
        pitches.useTemperament(temperament, base);
        settledFrames = STALE;
    }

    // ---- frames; nothing from here on changes anything

    public int samples() {
        return sound.count();
    }

    public int sample(int k) throws IndexOutOfBoundsException {
        requireIndex(k, sound.count());
        return sound.at(k);
    }

    public int frames() {
        return sound.frameCount();
    }

    public int energy(int frame, int shift)
            throws IndexOutOfBoundsException, IllegalArgumentException {
        requireFrame(frame);
        requireRange(shift, 0, HIGHEST_LAG);
        return sound.energyOf(frame, shift);
    }

    public int autocorrelation(int frame, int lag)
            throws IndexOutOfBoundsException, IllegalArgumentException {
        requireFrame(frame);
        requireRange(lag, 1, HIGHEST_LAG);
        return sound.autocorrelationOf(frame, lag);
    }

    public int difference(int frame, int lag)
            throws IndexOutOfBoundsException, IllegalArgumentException {
        requireFrame(frame);
        requireRange(lag, 1, HIGHEST_LAG);
        differences.measure(sound);
        return differences.at(frame, lag);
    }

    public int meanDifference(int frame, int lag)
            throws IndexOutOfBoundsException, IllegalArgumentException {
        requireFrame(frame);
        requireRange(lag, 1, HIGHEST_LAG);
        differences.measure(sound);
        return differences.meanInThousandths(frame, lag);
    }

    public int candidates(int frame) throws IndexOutOfBoundsException {
        requireFrame(frame);
        settle();
        return candidates.howMany(frame);
    }

    public int candidateLag(int frame, int candidate) throws IndexOutOfBoundsException {
        requireFrame(frame);
        settle();
        requireIndex(candidate, candidates.howMany(frame));
        return candidates.lagOf(frame, candidate + 1);
    }

    // ---- the track

    public int trackCost() {
        settle();
        return track.cost();
    }

    public int lag(int frame) throws IndexOutOfBoundsException {
        requireFrame(frame);
        settle();
        return track.lagOf(frame);
    }

    public int period(int frame) throws IndexOutOfBoundsException {
        requireFrame(frame);
        settle();
        return pitches.periodOf(frame);
    }

    public int name(int frame) throws IndexOutOfBoundsException {
        requireFrame(frame);
        settle();
        return pitches.nameOf(frame);
    }

    public int octave(int frame) throws IndexOutOfBoundsException {
        requireFrame(frame);
        settle();
        return pitches.octaveOf(frame);
    }

    public boolean isOnset(int frame) throws IndexOutOfBoundsException {
        requireFrame(frame);
        return sound.startsIn(frame);
    }

    // ---- notes

    public int notes() {
        settle();
        return notes.count();
    }

    public int noteStart(int note) throws IndexOutOfBoundsException {
        settle();
        requireIndex(note, notes.count());
        return notes.startOf(note);
    }

    public int noteLength(int note) throws IndexOutOfBoundsException {
        settle();
        requireIndex(note, notes.count());
        return notes.lengthOf(note);
    }

    public int noteOf(int frame) throws IndexOutOfBoundsException {
        requireFrame(frame);
        settle();
        return notes.holding(frame);
    }

    // ---- what the calls above share

    private static void requireRange(int value, int lowest, int highest) {
        if (value < lowest || value > highest) {
            throw new IllegalArgumentException("a number is out of range");
        }
    }

    private static void requireIndex(int index, int count) {
        if (index < 0 || index >= count) {
            throw new IndexOutOfBoundsException("there is none of this number");
        }
    }

    private void requireFrame(int frame) {
        requireIndex(frame, sound.frameCount());
    }

    private void requireRoom(int more) {
        if (more > MOST_SAMPLES - sound.count()) {
            throw new IllegalStateException("more samples would be fed than there is room for");
        }
    }

    /** Brings all that follows from the sound and the settings up to date. */
    private void settle() {
        int frames = sound.frameCount();
        if (settledFrames == frames) {
            return;
        }
        differences.measure(sound);
        candidates.choose(differences, frames);
        track.find(candidates, frames);
        pitches.find(track, differences, frames);
        notes.cut(pitches, sound, frames);
        settledFrames = frames;
    }

    private static int waveAt(int shape, int place, int period, int amplitude) {
        if (shape == SQUARE) {
            return 2 * place < period ? amplitude : -amplitude;
        }
        int height = place;
        if (shape == TRIANGLE) {
            height = 2 * place <= period ? 2 * place : 2 * period - 2 * place;
        }
        return (int) quotient(2 * amplitude * height, period) - amplitude;
    }

    private static int noiseOf(int z, int amplitude) {
        int kinds = 2 * amplitude + 1;
        return kinds > 0 ? (z >>> 16) % kinds - amplitude : 0;
    }

    /** The quotient, rounded towards 0; 0 where the divisor is not above 0. */
    private static long quotient(long dividend, long divisor) {
        return divisor > 0 ? dividend / divisor : 0;
    }

    /** A row of numbers; a place outside it reads as 0 and takes nothing, so no index can fail. */
    private static final class Row {
        private final int[] cells;

        Row(int length) {
            cells = new int[length > 0 ? length : 0];
        }

        int at(int k) {
            return k >= 0 && k < cells.length ? cells[k] : 0;
        }

        void put(int k, int value) {
            if (k >= 0 && k < cells.length) {
                cells[k] = value;
            }
        }
    }

    /** A row of numbers for each frame; a place outside them reads as 0 and takes nothing. */
    private static final class Table {
        private final int columns;
        private final int[] cells;

        Table(int columns) {
            this.columns = columns;
            int length = MOST_FRAMES * columns;
            cells = new int[length > 0 ? length : 0];
        }

        int at(int frame, int column) {
            int k = frame * columns + column;
            return column >= 0 && column < columns && k >= 0 && k < cells.length ? cells[k] : 0;
        }

        void put(int frame, int column, int value) {
            int k = frame * columns + column;
            if (column >= 0 && column < columns && k >= 0 && k < cells.length) {
                cells[k] = value;
            }
        }
    }

    /** The samples that were fed, and what is summed up over them. */
    private static final class Sound {
        private final int[] samples = new int[MOST_SAMPLES];
        private int count;

        int count() {
            return count;
        }

        int at(int k) {
            return k >= 0 && k < count && k < samples.length ? samples[k] : 0;
        }

        void add(int value) {
            if (count >= 0 && count < samples.length) {
                samples[count] = value;
                count++;
            }
        }

        void drop() {
            count = 0;
        }

        int frameCount() {
            return count < FRAME_LENGTH ? 0 : (count - FRAME_LENGTH) / FRAME_STEP + 1;
        }

        int energyOf(int frame, int shift) {
            return productSum(frame * FRAME_STEP + shift, 0);
        }

        int autocorrelationOf(int frame, int lag) {
            return productSum(frame * FRAME_STEP, lag);
        }

        boolean startsIn(int frame) {
            int energy = energyOf(frame, 0);
            return energy >= LOWEST_ONSET && (frame == 0 || energy > 2 * energyOf(frame - 1, 0));
        }

        /** The sum over the window at a sample of the products of samples that far apart. */
        int productSum(int from, int apart) {
            if (!holdsWindow(from, apart)) {
                return 0;
            }
            int sum = 0;
            for (int j = from; j < from + WINDOW; j++) {
                sum += samples[j] * samples[j + apart];
            }
            return sum;
        }

        /** The sum over the window at a sample of the squared gaps of samples that far apart. */
        int squaredGapSum(int from, int apart) {
            if (!holdsWindow(from, apart)) {
                return 0;
            }
            int sum = 0;
            for (int j = from; j < from + WINDOW; j++) {
                int gap = samples[j] - samples[j + apart];
                sum += gap * gap;
            }
            return sum;
        }

        private boolean holdsWindow(int from, int apart) {
            return from >= 0 && apart >= 0 && apart <= HIGHEST_LAG
                    && from <= samples.length - WINDOW - apart;
        }
    }

    /** The differences of the frames, and the mean differences as fractions. */
    private static final class Differences {
        private final Table sizes = new Table(HIGHEST_LAG + 1);
        /** Of the differences at 1 up to each lag. */
        private final Table sums = new Table(HIGHEST_LAG + 1);
        private int measuredFrames;

        void forget() {
            measuredFrames = 0;
        }

        /** A frame's samples never change but by dropping them all, so a frame is measured once. */
        void measure(Sound sound) {
            int frames = sound.frameCount();
            for (int frame = measuredFrames; frame < frames; frame++) {
                measureFrame(sound, frame);
            }
            measuredFrames = frames;
        }

        private void measureFrame(Sound sound, int frame) {
            int sum = 0;
            for (int lag = 1; lag <= HIGHEST_LAG; lag++) {
                int size = sound.squaredGapSum(frame * FRAME_STEP, lag);
                sum += size;
                sizes.put(frame, lag, size);
                sums.put(frame, lag, sum);
            }
        }

        int at(int frame, int lag) {
            return sizes.at(frame, lag);
        }

        int meanInThousandths(int frame, int lag) {
            return (int) quotient(1000 * meanTop(frame, lag), meanBottom(frame, lag));
        }

        boolean isMeanBelow(int frame, int lag, int percent) {
            return 100 * meanTop(frame, lag) < percent * meanBottom(frame, lag);
        }

        boolean isMeanLess(int frame, int lag, int otherLag) {
            return meanTop(frame, lag) * meanBottom(frame, otherLag)
                    < meanTop(frame, otherLag) * meanBottom(frame, lag);
        }

        private long meanTop(int frame, int lag) {
            return sums.at(frame, lag) > 0 ? (long) lag * sizes.at(frame, lag) : 1;
        }

        private long meanBottom(int frame, int lag) {
            int sum = sums.at(frame, lag);
            return sum > 0 ? sum : 1;
        }
    }

    /** What a path can take in each frame: the choice 0 is "unvoiced", the others the candidates. */
    private static final class Candidates {
        private final Row counts = new Row(MOST_FRAMES);
        private final Table lags = new Table(MOST_CANDIDATES + 1);
        private final Table costs = new Table(MOST_CANDIDATES + 1);
        private int threshold = 20;
        private int chosenFrames;

        int threshold() {
            return threshold;
        }

        void useThreshold(int percent) {
            threshold = percent;
            forget();
        }

        void forget() {
            chosenFrames = 0;
        }

        void choose(Differences differences, int frames) {
            for (int frame = chosenFrames; frame < frames; frame++) {
                chooseInFrame(differences, frame);
            }
            chosenFrames = frames;
        }

        private void chooseInFrame(Differences differences, int frame) {
            int count = 0;
            for (int lag = 2; lag < HIGHEST_LAG && count < MOST_CANDIDATES; lag++) {
                if (isCandidate(differences, frame, lag)) {
                    count++;
                    lags.put(frame, count, lag);
                    costs.put(frame, count, differences.meanInThousandths(frame, lag));
                }
            }
            counts.put(frame, count);
        }

        private boolean isCandidate(Differences differences, int frame, int lag) {
            return differences.isMeanBelow(frame, lag, threshold)
                    && differences.isMeanLess(frame, lag, lag - 1)
                    && !differences.isMeanLess(frame, lag + 1, lag);
        }

        int howMany(int frame) {
            return counts.at(frame);
        }

        int choicesIn(int frame) {
            return counts.at(frame) + 1;
        }

        int lagOf(int frame, int choice) {
            return lags.at(frame, choice);
        }

        int costOf(int frame, int choice) {
            return costs.at(frame, choice);
        }
    }

    /** The cheapest path through the choices of all frames. */
    private static final class Track {
        private int unvoicedCost = 300;
        private int jumpCost = 10;
        private int changeCost = 200;
        /** The least cost of a path that ends with a choice, and the choice ahead on that path. */
        private final Table totals = new Table(MOST_CANDIDATES + 1);
        private final Table earlierChoices = new Table(MOST_CANDIDATES + 1);
        private final Row lags = new Row(MOST_FRAMES);
        private int cost;

        void useCosts(int unvoiced, int jump, int change) {
            unvoicedCost = unvoiced;
            jumpCost = jump;
            changeCost = change;
        }

        int cost() {
            return cost;
        }

        int lagOf(int frame) {
            return lags.at(frame);
        }

        void find(Candidates candidates, int frames) {
            for (int frame = 0; frame < frames; frame++) {
                int choices = candidates.choicesIn(frame);
                for (int choice = 0; choice < choices; choice++) {
                    reach(candidates, frame, choice);
                }
            }
            int choice = cheapestIn(frames - 1, candidates);
            cost = frames > 0 ? totals.at(frames - 1, choice) : 0;
            for (int frame = frames - 1; frame >= 0; frame--) {
                lags.put(frame, candidates.lagOf(frame, choice));
                choice = earlierChoices.at(frame, choice);
            }
        }

        /** Choices rise with their lags, so of equal costs the first met has the lowest lag. */
        private void reach(Candidates candidates, int frame, int choice) {
            int lag = candidates.lagOf(frame, choice);
            int least = 0;
            int earlierChoice = 0;
            int choicesAhead = frame > 0 ? candidates.choicesIn(frame - 1) : 0;
            for (int earlier = 0; earlier < choicesAhead; earlier++) {
                int total = totals.at(frame - 1, earlier)
                        + stepCost(candidates.lagOf(frame - 1, earlier), lag);
                if (earlier == 0 || total < least) {
                    least = total;
                    earlierChoice = earlier;
                }
            }
            int own = choice == 0 ? unvoicedCost : candidates.costOf(frame, choice);
            totals.put(frame, choice, least + own);
            earlierChoices.put(frame, choice, earlierChoice);
        }

        private int stepCost(int fromLag, int toLag) {
            if (fromLag > 0 && toLag > 0) {
                return Math.abs(fromLag - toLag) * jumpCost;
            }
            return fromLag > 0 || toLag > 0 ? changeCost : 0;
        }

        private int cheapestIn(int frame, Candidates candidates) {
            int cheapest = 0;
            int choices = candidates.choicesIn(frame);
            for (int choice = 1; choice < choices; choice++) {
                if (totals.at(frame, choice) < totals.at(frame, cheapest)) {
                    cheapest = choice;
                }
            }
            return cheapest;
        }
    }

    /** The periods of the frames, and their names and octaves in the temperament. */
    private static final class Pitches {
        private static final int[] PARTS = {
            10000, 9439, 8909, 8409, 7937, 7492, 7071, 6674, 6300, 5946, 5612, 5297,
            10000, 9375, 8889, 8333, 8000, 7500, 7111, 6667, 6250, 6000, 5625, 5333,
            10000, 9492, 8889, 8438, 7901, 7500, 7023, 6667, 6328, 5926, 5625, 5267,
        };
        private static final int WHOLE = 10000;

        private int temperament = 0;
        private int base = 4096;
        private final Row periods = new Row(MOST_FRAMES);
        /** Twelve times the octave, and the name; or NONE. */
        private final Row patterns = new Row(MOST_FRAMES);

        void useTemperament(int newTemperament, int newBase) {
            temperament = newTemperament;
            base = newBase;
        }

        void find(Track track, Differences differences, int frames) {
            for (int frame = 0; frame < frames; frame++) {
                int lag = track.lagOf(frame);
                int period = lag > 0 ? refine(differences, frame, lag) : 0;
                periods.put(frame, period);
                patterns.put(frame, lag > 0 ? nearestPattern(period) : NONE);
            }
        }

        private static int refine(Differences differences, int frame, int lag) {
            int a = differences.at(frame, lag - 1);
            int b = differences.at(frame, lag);
            int c = differences.at(frame, lag + 1);
            int shift = (int) quotient(32 * (a - c), a - 2 * b + c);
            return LAG_UNIT * lag + Math.max(-MOST_SHIFT, Math.min(MOST_SHIFT, shift));
        }

        /** Patterns and period are compared as whole numbers, times WHOLE and the highest octave. */
        private int nearestPattern(int period) {
            long target = (long) period * WHOLE << (OCTAVES - 1);
            int nearest = 0;
            long least = 0;
            for (int pattern = 0; pattern < OCTAVES * NAMES; pattern++) {
                int octave = pattern / NAMES;
                long size = (long) base * partOf(pattern % NAMES) << (OCTAVES - 1 - octave);
                long distance = Math.abs(size - target);
                if (pattern == 0 || distance < least) {
                    least = distance;
                    nearest = pattern;
                }
            }
            return nearest;
        }

        private int partOf(int name) {
            int k = temperament * NAMES + name;
            return k >= 0 && k < PARTS.length ? PARTS[k] : 0;
        }

        int periodOf(int frame) {
            return periods.at(frame);
        }

        int patternOf(int frame) {
            return patterns.at(frame);
        }

        int nameOf(int frame) {
            int pattern = patterns.at(frame);
            return pattern < 0 ? NONE : pattern % NAMES;
        }

        int octaveOf(int frame) {
            int pattern = patterns.at(frame);
            return pattern < 0 ? NONE : pattern / NAMES;
        }
    }

    /** The runs of voiced frames of one name and octave. */
    private static final class Notes {
        private final Row starts = new Row(MOST_FRAMES);
        private final Row lengths = new Row(MOST_FRAMES);
        private final Row ofFrames = new Row(MOST_FRAMES);
        private int count;

        void cut(Pitches pitches, Sound sound, int frames) {
            count = 0;
            for (int frame = 0; frame < frames; frame++) {
                if (pitches.patternOf(frame) < 0) {
                    ofFrames.put(frame, NONE);
                } else {
                    if (beginsNote(pitches, sound, frame)) {
                        starts.put(count, frame);
                        count++;
                    }
                    lengths.put(count - 1, frame + 1 - starts.at(count - 1));
                    ofFrames.put(frame, count - 1);
                }
            }
        }

        /** Asked of a voiced frame. */
        private static boolean beginsNote(Pitches pitches, Sound sound, int frame) {
            if (frame == 0 || pitches.patternOf(frame - 1) != pitches.patternOf(frame)) {
                return true;
            }
            return sound.startsIn(frame) && !sound.startsIn(frame - 1);
        }

        int count() {
            return count;
        }

        int startOf(int note) {
            return starts.at(note);
        }

        int lengthOf(int note) {
            return lengths.at(note);
        }

        int holding(int frame) {
            return ofFrames.at(frame);
        }
    }
}
