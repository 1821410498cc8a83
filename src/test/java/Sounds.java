/** Sounds that the tests of the boundary cases share, and all that a tracker tells of one. */
final class Sounds {
    private Sounds() { }

    static PitchTracker silence(int samples) {
        return squareOf(2, 0, samples);
    }

    static PitchTracker square(int period, int samples) {
        return squareOf(period, 50, samples);
    }

    static PitchTracker squareOf(int period, int amplitude, int samples) {
        PitchTracker x = new PitchTracker();
        addSquare(x, period, amplitude, samples);
        return x;
    }

    /** A call feeds 400 samples at most: a longer wave is fed in parts of whole periods, so that it goes on. */
    static void addSquare(PitchTracker x, int period, int amplitude, int samples) {
        int most = 400 / period * period;
        int left = samples;
        while (left > 0) {
            int some = Math.min(left, most);
            x.feedWave(2, period, amplitude, some);
            left -= some;
        }
    }

    /** One frame: these samples, and then 0. */
    static PitchTracker startingWith(int... samples) {
        PitchTracker x = new PitchTracker();
        for (int value : samples) {
            x.feed(value);
        }
        addSquare(x, 2, 0, 128 - samples.length);
        return x;
    }

    /** So many samples: 0 but at two places. */
    static PitchTracker peaks(int samples, int place, int value, int otherPlace, int otherValue) {
        PitchTracker x = new PitchTracker();
        for (int k = 0; k < samples; k++) {
            x.feed(k == place ? value : k == otherPlace ? otherValue : 0);
        }
        return x;
    }

    static PitchTracker peak(int samples, int place, int value) {
        return peaks(samples, place, value, place, value);
    }

    /** Waves of the rows' shape, period, amplitude and samples. */
    static PitchTracker waves(int[]... rows) {
        PitchTracker x = new PitchTracker();
        for (int[] row : rows) {
            x.feedWave(row[0], row[1], row[2], row[3]);
        }
        return x;
    }

    /** 1024 samples whose track has unvoiced frames, jumps and changes, and names of several octaves. */
    static PitchTracker mixed() {
        PitchTracker x = new PitchTracker();
        x.feedWave(2, 2, 90, 256);
        x.feedWave(2, 4, 90, 256);
        x.feedNoise(5, 90, 256);
        x.feedWave(1, 20, 90, 256);
        return x;
    }

    /** In some 270 calls at most, as an object has 512; none of them changes anything. */
    static String told(PitchTracker x) {
        StringBuilder text = new StringBuilder();
        text.append(x.samples()).append(" samples:");
        for (int k = 0; k < x.samples(); k += 16) {
            text.append(' ').append(x.sample(k));
        }
        text.append("; cost ").append(x.trackCost()).append("; frames:");
        for (int frame = 0; frame < x.frames(); frame++) {
            text.append(' ').append(x.candidates(frame)).append('/').append(x.lag(frame));
            text.append('/').append(x.period(frame)).append('/').append(x.name(frame));
            text.append('/').append(x.octave(frame)).append('/').append(x.isOnset(frame));
            text.append('/').append(x.noteOf(frame));
        }
        return text.append("; ").append(x.notes()).append(" notes").toString();
    }
}
