import java.math.BigInteger;
import java.util.ArrayList;
import java.util.List;

/**
 * The document once more, for the tests: word by word, with everything told anew at each call and
 * fractions of any size. It shares no way of working with the program.
 */
final class PlainTracker {
    private static final int[][] TEMPERAMENTS = {
        {10000, 9439, 8909, 8409, 7937, 7492, 7071, 6674, 6300, 5946, 5612, 5297},
        {10000, 9375, 8889, 8333, 8000, 7500, 7111, 6667, 6250, 6000, 5625, 5333},
        {10000, 9492, 8889, 8438, 7901, 7500, 7023, 6667, 6328, 5926, 5625, 5267},
    };

    /** A fraction whose bottom is above 0. */
    private record Fraction(BigInteger top, BigInteger bottom) {
        static Fraction of(long top, long bottom) {
            return new Fraction(BigInteger.valueOf(top), BigInteger.valueOf(bottom));
        }

        int compareTo(Fraction other) {
            return top.multiply(other.bottom).compareTo(other.top.multiply(bottom));
        }

        int thousandths() {
            return top.multiply(BigInteger.valueOf(1000)).divide(bottom).intValueExact();
        }

        Fraction distanceTo(Fraction other) {
            BigInteger gap = top.multiply(other.bottom).subtract(other.top.multiply(bottom));
            return new Fraction(gap.abs(), bottom.multiply(other.bottom));
        }
    }

    private record Path(int cost, List<Integer> lags) {
        boolean isAheadOf(Path other) {
            if (cost != other.cost) {
                return cost < other.cost;
            }
            for (int k = lags.size() - 1; k >= 0; k--) {
                if (!lags.get(k).equals(other.lags.get(k))) {
                    return lags.get(k) < other.lags.get(k);
                }
            }
            return false;
        }
    }

    private record Note(int start, int length) { }

    private final List<Integer> x = new ArrayList<>();
    private int threshold = 20;
    private int unvoiced = 300;
    private int jump = 10;
    private int change = 200;
    private int temperament = 0;
    private int base = 4096;
    /** The track is dear here, so it is kept until something changes. */
    private Path kept;

    int feed(int value) {
        if (Math.abs((long) value) > 100) {
            throw new IllegalArgumentException();
        }
        return feedAll(List.of(value));
    }

    int feedWave(int shape, int period, int amplitude, int samples) {
        if (shape < 0 || shape > 2 || period < 2 || period > 64) {
            throw new IllegalArgumentException();
        }
        refuseAmount(amplitude, samples);
        List<Integer> wave = new ArrayList<>();
        for (int i = 0; i < samples; i++) {
            wave.add(waveSample(shape, i % period, amplitude, period));
        }
        return feedAll(wave);
    }

    private static int waveSample(int shape, int p, int a, int n) {
        int m = 2 * p <= n ? 2 * p : 2 * n - 2 * p;
        switch (shape) {
            case 0:
                return Math.floorDiv(2 * a * p, n) - a;
            case 1:
                return Math.floorDiv(2 * a * m, n) - a;
            default:
                return 2 * p < n ? a : -a;
        }
    }

    int feedNoise(int seed, int amplitude, int samples) {
        refuseAmount(amplitude, samples);
        BigInteger z = BigInteger.valueOf(seed);
        List<Integer> noise = new ArrayList<>();
        for (int i = 0; i < samples; i++) {
            z = z.multiply(BigInteger.valueOf(1103515245)).add(BigInteger.valueOf(12345));
            int high = z.shiftRight(16).and(BigInteger.valueOf(65535)).intValueExact();
            noise.add(high % (2 * amplitude + 1) - amplitude);
        }
        return feedAll(noise);
    }

    private static void refuseAmount(int amplitude, int samples) {
        if (amplitude < 0 || amplitude > 100 || samples < 1 || samples > 400) {
            throw new IllegalArgumentException();
        }
    }

    private int feedAll(List<Integer> more) {
        if (x.size() + more.size() > 1024) {
            throw new IllegalStateException();
        }
        x.addAll(more);
        kept = null;
        return x.size();
    }

    int clear() {
        int dropped = x.size();
        x.clear();
        kept = null;
        return dropped;
    }

    int setThreshold(int percent) {
        if (percent < 1 || percent > 100) {
            throw new IllegalArgumentException();
        }
        int before = threshold;
        threshold = percent;
        kept = null;
        return before;
    }

    void setCosts(int newUnvoiced, int newJump, int newChange) {
        if (newUnvoiced < 0 || newUnvoiced > 1000 || newJump < 0 || newJump > 100
                || newChange < 0 || newChange > 1000) {
            throw new IllegalArgumentException();
        }
        unvoiced = newUnvoiced;
        jump = newJump;
        change = newChange;
        kept = null;
    }

    void setTemperament(int newTemperament, int newBase) {
        if (newTemperament < 0 || newTemperament > 2 || newBase < 64 || newBase > 8192) {
            throw new IllegalArgumentException();
        }
        temperament = newTemperament;
        base = newBase;
    }

    int samples() {
        return x.size();
    }

    int sample(int k) {
        refuseIndex(k, x.size());
        return x.get(k);
    }

    int frames() {
        int count = 0;
        while (32 * count + 128 <= x.size()) {
            count++;
        }
        return count;
    }

    int energy(int frame, int shift) {
        refuse(frame, shift, 0);
        int sum = 0;
        for (int j = 0; j <= 63; j++) {
            sum += y(frame, j + shift) * y(frame, j + shift);
        }
        return sum;
    }

    int autocorrelation(int frame, int lag) {
        refuse(frame, lag, 1);
        int sum = 0;
        for (int j = 0; j <= 63; j++) {
            sum += y(frame, j) * y(frame, j + lag);
        }
        return sum;
    }

    int difference(int frame, int lag) {
        refuse(frame, lag, 1);
        return energy(frame, 0) + energy(frame, lag) - 2 * autocorrelation(frame, lag);
    }

    int meanDifference(int frame, int lag) {
        refuse(frame, lag, 1);
        return means(frame)[lag].thousandths();
    }

    int candidates(int frame) {
        refuseIndex(frame, frames());
        return candidateLags(frame).size();
    }

    int candidateLag(int frame, int candidate) {
        refuseIndex(frame, frames());
        List<Integer> lags = candidateLags(frame);
        refuseIndex(candidate, lags.size());
        return lags.get(candidate);
    }

    int trackCost() {
        return track().cost();
    }

    int lag(int frame) {
        refuseIndex(frame, frames());
        return track().lags().get(frame);
    }

    int period(int frame) {
        int t = lag(frame);
        if (t == 0) {
            return 0;
        }
        int a = difference(frame, t - 1);
        int b = difference(frame, t);
        int c = difference(frame, t + 1);
        int shift = a - 2 * b + c > 0 ? 32 * (a - c) / (a - 2 * b + c) : 0;
        return 64 * t + Math.min(32, Math.max(-32, shift));
    }

    int name(int frame) {
        return lag(frame) == 0 ? -1 : nearest(period(frame))[0];
    }

    int octave(int frame) {
        return lag(frame) == 0 ? -1 : nearest(period(frame))[1];
    }

    boolean isOnset(int frame) {
        refuseIndex(frame, frames());
        int energy = energy(frame, 0);
        if (energy < 640) {
            return false;
        }
        return frame == 0 || energy > 2 * energy(frame - 1, 0);
    }

    int notes() {
        return cut().size();
    }

    int noteStart(int note) {
        List<Note> notes = cut();
        refuseIndex(note, notes.size());
        return notes.get(note).start();
    }

    int noteLength(int note) {
        List<Note> notes = cut();
        refuseIndex(note, notes.size());
        return notes.get(note).length();
    }

    int noteOf(int frame) {
        refuseIndex(frame, frames());
        List<Note> notes = cut();
        for (int k = 0; k < notes.size(); k++) {
            Note note = notes.get(k);
            if (frame >= note.start() && frame < note.start() + note.length()) {
                return k;
            }
        }
        return -1;
    }

    private static void refuseIndex(int k, int size) {
        if (k < 0 || k >= size) {
            throw new IndexOutOfBoundsException();
        }
    }

    private void refuse(int frame, int number, int least) {
        refuseIndex(frame, frames());
        if (number < least || number > 64) {
            throw new IllegalArgumentException();
        }
    }

    private int y(int frame, int j) {
        return x.get(32 * frame + j);
    }

    private Fraction[] means(int frame) {
        Fraction[] means = new Fraction[65];
        long sum = 0;
        for (int t = 1; t <= 64; t++) {
            int own = difference(frame, t);
            sum += own;
            means[t] = sum == 0 ? Fraction.of(1, 1) : Fraction.of((long) t * own, sum);
        }
        return means;
    }

    private List<Integer> candidateLags(int frame) {
        Fraction[] means = means(frame);
        Fraction limit = Fraction.of(threshold, 100);
        List<Integer> lags = new ArrayList<>();
        for (int t = 2; t <= 63; t++) {
            if (means[t].compareTo(limit) < 0 && means[t].compareTo(means[t - 1]) < 0
                    && means[t].compareTo(means[t + 1]) <= 0) {
                lags.add(t);
            }
        }
        return lags.size() > 8 ? lags.subList(0, 8) : lags;
    }

    /** Of the paths that end alike, the one that the document prefers, frame by frame. */
    private Path track() {
        if (kept != null) {
            return kept;
        }
        List<Path> paths = new ArrayList<>();
        paths.add(new Path(0, List.of()));
        for (int frame = 0; frame < frames(); frame++) {
            Fraction[] means = means(frame);
            List<Path> longer = new ArrayList<>();
            longer.add(best(paths, 0, unvoiced));
            for (int lag : candidateLags(frame)) {
                longer.add(best(paths, lag, means[lag].thousandths()));
            }
            paths = longer;
        }
        kept = first(paths);
        return kept;
    }

    private Path best(List<Path> paths, int lag, int own) {
        List<Path> longer = new ArrayList<>();
        for (Path path : paths) {
            longer.add(extended(path, lag, own));
        }
        return first(longer);
    }

    private Path extended(Path path, int lag, int own) {
        int cost = path.cost() + own;
        if (!path.lags().isEmpty()) {
            int before = path.lags().get(path.lags().size() - 1);
            if (before != 0 && lag != 0) {
                cost += Math.abs(before - lag) * jump;
            } else if (before != 0 || lag != 0) {
                cost += change;
            }
        }
        List<Integer> lags = new ArrayList<>(path.lags());
        lags.add(lag);
        return new Path(cost, lags);
    }

    private static Path first(List<Path> paths) {
        Path first = paths.get(0);
        for (Path path : paths) {
            first = path.isAheadOf(first) ? path : first;
        }
        return first;
    }

    /** The least path of all there are; dear, so for a few frames only. */
    int[] trackByTryingAll() {
        List<Path> paths = new ArrayList<>();
        paths.add(new Path(0, List.of()));
        for (int frame = 0; frame < frames(); frame++) {
            Fraction[] means = means(frame);
            List<Integer> lags = candidateLags(frame);
            List<Path> longer = new ArrayList<>();
            for (Path path : paths) {
                longer.add(extended(path, 0, unvoiced));
                for (int lag : lags) {
                    longer.add(extended(path, lag, means[lag].thousandths()));
                }
            }
            paths = longer;
        }
        Path first = first(paths);
        int[] told = new int[frames() + 1];
        for (int frame = 0; frame < frames(); frame++) {
            told[frame] = first.lags().get(frame);
        }
        told[frames()] = first.cost();
        return told;
    }

    private int[] nearest(int period) {
        int[] found = {-1, -1};
        Fraction least = null;
        for (int octave = 0; octave <= 6; octave++) {
            for (int name = 0; name <= 11; name++) {
                Fraction pattern = Fraction.of((long) base * TEMPERAMENTS[temperament][name],
                        10000L << octave);
                Fraction distance = pattern.distanceTo(Fraction.of(period, 1));
                if (least == null || distance.compareTo(least) < 0) {
                    least = distance;
                    found = new int[] {name, octave};
                }
            }
        }
        return found;
    }

    private List<Note> cut() {
        List<Note> notes = new ArrayList<>();
        int frame = 0;
        while (frame < frames()) {
            if (lag(frame) == 0) {
                frame++;
                continue;
            }
            int end = frame + 1;
            while (end < frames() && goesOn(end)) {
                end++;
            }
            notes.add(new Note(frame, end - frame));
            frame = end;
        }
        return notes;
    }

    private boolean goesOn(int frame) {
        if (lag(frame) == 0 || name(frame) != name(frame - 1) || octave(frame) != octave(frame - 1)) {
            return false;
        }
        return !isOnset(frame) || isOnset(frame - 1);
    }
}
