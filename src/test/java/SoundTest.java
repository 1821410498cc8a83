/** Promises 1 to 5, 9 and 10: what is fed, and what a new or a cleared object holds. */
public final class SoundTest {
    private static final Check CHECK = new Check("SoundTest");

    public static void main(String[] args) {
        newObject();
        newObjectHasTheDocumentsSettings();
        feed();
        feedUpToTheEnd();
        saw();
        triangle();
        square();
        waveRanges();
        waveUpToTheEnd();
        noise();
        noiseRanges();
        noiseUpToTheEnd();
        clear();
        clearedSoundIsForgotten();
        sample();
        CHECK.close();
    }

    private static void newObject() {
        PitchTracker x = new PitchTracker();
        CHECK.same("samples() of a new object", x.samples(), 0);
        CHECK.same("frames() of a new object", x.frames(), 0);
        CHECK.same("notes() of a new object", x.notes(), 0);
        CHECK.same("trackCost() of a new object", x.trackCost(), 0);
        CHECK.same("setThreshold(7) on a new object", x.setThreshold(7), 20);
    }

    /** A mix whose track holds unvoiced frames, a jump and changes. */
    private static PitchTracker mixed() {
        PitchTracker x = new PitchTracker();
        x.feedWave(2, 2, 90, 256);
        x.feedWave(2, 4, 90, 256);
        x.feedNoise(5, 90, 256);
        x.feedWave(1, 20, 90, 256);
        return x;
    }

    private static void newObjectHasTheDocumentsSettings() {
        int due = mixed().trackCost();
        int[][] others = {{301, 10, 200}, {300, 11, 200}, {300, 10, 201}};
        PitchTracker same = mixed();
        same.setCosts(300, 10, 200);
        CHECK.same("trackCost() after setCosts(300, 10, 200)", same.trackCost(), due);
        for (int[] costs : others) {
            PitchTracker other = mixed();
            other.setCosts(costs[0], costs[1], costs[2]);
            CHECK.isTrue("other costs give another track", other.trackCost() != due);
        }
        PitchTracker tone = new PitchTracker();
        tone.feedWave(2, 2, 50, 128);
        CHECK.same("period(0) of the square of 2", tone.period(0), 128);
        CHECK.same("octave(0) at the base 4096", tone.octave(0), 5);
        CHECK.same("name(0) at the base 4096", tone.name(0), 0);
        // 2814.98 and 2234.16 lie halfway between two patterns of 4096, of 4097 2815.66 does, and of
        // 4095 2233.61.
        newObjectNames(44, 41, 2, 2815, 6);
        newObjectNames(35, 46, 3, 2234, 11);
    }

    private static void newObjectNames(int period, int amplitude, int seed, int due, int name) {
        PitchTracker x = new PitchTracker();
        x.feedWave(1, period, amplitude, 128 - 10 * seed);
        x.feedNoise(seed, amplitude, 10 * seed);
        CHECK.same("period(0) of a blurred triangle of " + period, x.period(0), due);
        CHECK.same("name(0) of a blurred triangle of " + period, x.name(0), name);
        CHECK.same("octave(0) of a blurred triangle of " + period, x.octave(0), 0);
    }

    private static void feed() {
        PitchTracker x = new PitchTracker();
        CHECK.same("feed(100)", x.feed(100), 1);
        CHECK.same("feed(-100)", x.feed(-100), 2);
        CHECK.same("feed(0)", x.feed(0), 3);
        int[] wrong = {101, -101, Integer.MAX_VALUE, Integer.MIN_VALUE};
        for (int value : wrong) {
            CHECK.refusesArgument("feed(" + value + ")", () -> x.feed(value));
        }
        CHECK.same("samples() after refused ones", x.samples(), 3);
        CHECK.same("sample(0)", x.sample(0), 100);
        CHECK.same("sample(1)", x.sample(1), -100);
        CHECK.same("sample(2)", x.sample(2), 0);
    }

    private static void feedUpToTheEnd() {
        PitchTracker x = full(1023);
        CHECK.same("feed(5) as the last one", x.feed(5), 1024);
        CHECK.refusesState("feed(5) with 1024 fed", () -> x.feed(5));
        CHECK.refusesArgument("feed(101) with 1024 fed", () -> x.feed(101));
        CHECK.same("samples()", x.samples(), 1024);
        CHECK.same("sample(1023)", x.sample(1023), 5);
    }

    /** An object with that many samples of 0. */
    private static PitchTracker full(int count) {
        PitchTracker x = new PitchTracker();
        int left = count;
        while (left > 0) {
            int some = Math.min(left, 400);
            x.feedWave(2, 64, 0, some);
            left -= some;
        }
        return x;
    }

    private static void fedAre(String call, PitchTracker x, int... due) {
        CHECK.same("samples() after " + call, x.samples(), due.length);
        for (int k = 0; k < due.length && k < x.samples(); k++) {
            CHECK.same("sample(" + k + ") after " + call, x.sample(k), due[k]);
        }
    }

    private static void saw() {
        PitchTracker x = new PitchTracker();
        CHECK.same("feedWave(0, 5, 10, 7)", x.feedWave(0, 5, 10, 7), 7);
        fedAre("feedWave(0, 5, 10, 7)", x, -10, -6, -2, 2, 6, -10, -6);
        PitchTracker rounded = new PitchTracker();
        rounded.feedWave(0, 7, 10, 8);
        fedAre("feedWave(0, 7, 10, 8)", rounded, -10, -8, -5, -2, 1, 4, 7, -10);
        PitchTracker twice = new PitchTracker();
        twice.feedWave(0, 2, 100, 3);
        CHECK.same("a wave after a wave", twice.feedWave(0, 3, 3, 3), 6);
        fedAre("two waves, each from its own sample 0", twice, -100, 0, -100, -3, -1, 1);
    }

    private static void triangle() {
        PitchTracker even = new PitchTracker();
        CHECK.same("feedWave(1, 6, 7, 7)", even.feedWave(1, 6, 7, 7), 7);
        fedAre("feedWave(1, 6, 7, 7)", even, -7, -3, 2, 7, 2, -3, -7);
        PitchTracker odd = new PitchTracker();
        odd.feedWave(1, 5, 10, 6);
        fedAre("feedWave(1, 5, 10, 6)", odd, -10, -2, 6, 6, -2, -10);
        PitchTracker shortest = new PitchTracker();
        shortest.feedWave(1, 2, 100, 3);
        fedAre("feedWave(1, 2, 100, 3)", shortest, -100, 100, -100);
    }

    private static void square() {
        PitchTracker odd = new PitchTracker();
        CHECK.same("feedWave(2, 5, 10, 6)", odd.feedWave(2, 5, 10, 6), 6);
        fedAre("feedWave(2, 5, 10, 6)", odd, 10, 10, 10, -10, -10, 10);
        PitchTracker even = new PitchTracker();
        even.feedWave(2, 4, 100, 5);
        fedAre("feedWave(2, 4, 100, 5)", even, 100, 100, -100, -100, 100);
        PitchTracker silent = new PitchTracker();
        silent.feedWave(2, 4, 0, 4);
        fedAre("feedWave(2, 4, 0, 4)", silent, 0, 0, 0, 0);
    }

    private static void waveRanges() {
        PitchTracker x = new PitchTracker();
        int[][] wrong = {
            {-1, 10, 10, 10}, {3, 10, 10, 10}, {0, 1, 10, 10}, {0, 0, 10, 10}, {0, -1, 10, 10},
            {0, 65, 10, 10}, {0, 10, -1, 10}, {0, 10, 101, 10}, {0, 10, 10, 0}, {0, 10, 10, -1},
            {0, 10, 10, 401}, {Integer.MIN_VALUE, 10, 10, 10}, {0, Integer.MAX_VALUE, 10, 10},
            {0, 10, Integer.MIN_VALUE, 10}, {0, 10, 10, Integer.MAX_VALUE},
        };
        for (int[] w : wrong) {
            CHECK.refusesArgument("feedWave(" + w[0] + ", " + w[1] + ", " + w[2] + ", " + w[3] + ")",
                    () -> x.feedWave(w[0], w[1], w[2], w[3]));
        }
        CHECK.same("samples() after refused waves", x.samples(), 0);
        CHECK.same("feedWave(2, 64, 100, 400)", x.feedWave(2, 64, 100, 400), 400);
        CHECK.same("sample(31)", x.sample(31), 100);
        CHECK.same("sample(32)", x.sample(32), -100);
        CHECK.same("sample(64)", x.sample(64), 100);
        CHECK.same("feedWave(0, 2, 0, 1)", x.feedWave(0, 2, 0, 1), 401);
    }

    private static void waveUpToTheEnd() {
        PitchTracker x = full(1000);
        CHECK.refusesState("feedWave of 25 with 24 left", () -> x.feedWave(0, 10, 10, 25));
        CHECK.refusesArgument("feedWave of 401 with 24 left", () -> x.feedWave(0, 10, 10, 401));
        CHECK.same("samples() after refused waves", x.samples(), 1000);
        CHECK.same("feedWave of 24 with 24 left", x.feedWave(0, 10, 10, 24), 1024);
        CHECK.refusesState("feedWave of 1 with none left", () -> x.feedWave(0, 10, 10, 1));
    }

    private static void noise() {
        PitchTracker one = new PitchTracker();
        CHECK.same("feedNoise(1, 100, 3)", one.feedNoise(1, 100, 3), 3);
        // z becomes 1103527590, then -1770082073: above their lowest 16 bits 16838 and 38526.
        CHECK.same("sample(0) after feedNoise(1, 100, 3)", one.sample(0), 16838 % 201 - 100);
        int next = 1103527590 * 1103515245 + 12345;
        CHECK.same("sample(1) after feedNoise(1, 100, 3)", one.sample(1),
                ((next >> 16) & 65535) % 201 - 100);
        PitchTracker silent = new PitchTracker();
        silent.feedNoise(-5, 0, 2);
        fedAre("feedNoise(-5, 0, 2)", silent, 0, 0);
        PitchTracker quiet = new PitchTracker();
        quiet.feedNoise(Integer.MIN_VALUE, 1, 400);
        boolean[] seen = new boolean[3];
        for (int k = 0; k < 400; k++) {
            int value = quiet.sample(k);
            CHECK.isTrue("noise of amplitude 1 is -1 to 1", value >= -1 && value <= 1);
            if (value >= -1 && value <= 1) {
                seen[value + 1] = true;
            }
        }
        CHECK.isTrue("noise of amplitude 1 takes each value", seen[0] && seen[1] && seen[2]);
        longNoise(Integer.MAX_VALUE);
        longNoise(-77);
    }

    /** The same noise in long arithmetic, without going round by itself. */
    private static void longNoise(int seed) {
        PitchTracker x = new PitchTracker();
        x.feedNoise(seed, 37, 400);
        long z = seed & 0xffffffffL;
        for (int k = 0; k < 400; k++) {
            z = (z * 1103515245L + 12345L) % 4294967296L;
            CHECK.same("sample(" + k + ") of noise from " + seed, x.sample(k), z / 65536 % 75 - 37);
        }
    }

    private static void noiseRanges() {
        PitchTracker x = new PitchTracker();
        int[][] wrong = {
            {-1, 10}, {101, 10}, {10, 0}, {10, -1}, {10, 401},
            {Integer.MAX_VALUE, 10}, {Integer.MIN_VALUE, 10}, {10, Integer.MAX_VALUE},
        };
        for (int[] w : wrong) {
            CHECK.refusesArgument("feedNoise(1, " + w[0] + ", " + w[1] + ")",
                    () -> x.feedNoise(1, w[0], w[1]));
        }
        CHECK.same("samples() after refused noise", x.samples(), 0);
        CHECK.same("feedNoise(0, 100, 400)", x.feedNoise(0, 100, 400), 400);
        CHECK.same("feedNoise(0, 0, 1)", x.feedNoise(0, 0, 1), 401);
    }

    private static void noiseUpToTheEnd() {
        PitchTracker x = full(1000);
        CHECK.refusesState("feedNoise of 25 with 24 left", () -> x.feedNoise(1, 10, 25));
        CHECK.refusesArgument("feedNoise of 401 with 24 left", () -> x.feedNoise(1, 10, 401));
        CHECK.refusesArgument("feedNoise too loud with 24 left", () -> x.feedNoise(1, 101, 25));
        CHECK.same("samples() after refused noise", x.samples(), 1000);
        CHECK.same("feedNoise of 24 with 24 left", x.feedNoise(1, 10, 24), 1024);
        CHECK.refusesState("feedNoise of 1 with none left", () -> x.feedNoise(1, 10, 1));
    }

    private static void clear() {
        PitchTracker x = new PitchTracker();
        CHECK.same("clear() of a new object", x.clear(), 0);
        x.feedWave(2, 2, 50, 300);
        x.setThreshold(9);
        x.setCosts(0, 0, 0);
        x.setTemperament(1, 128);
        CHECK.same("clear()", x.clear(), 300);
        CHECK.same("samples() after clear()", x.samples(), 0);
        CHECK.same("frames() after clear()", x.frames(), 0);
        CHECK.same("notes() after clear()", x.notes(), 0);
        CHECK.same("trackCost() after clear()", x.trackCost(), 0);
        CHECK.refusesIndex("sample(0) after clear()", () -> x.sample(0));
        CHECK.refusesIndex("lag(0) after clear()", () -> x.lag(0));
        CHECK.same("clear() again", x.clear(), 0);
        x.feedWave(2, 2, 50, 128);
        CHECK.same("lag(0): the costs stayed", x.lag(0), 0);
        x.setCosts(300, 10, 200);
        CHECK.same("octave(0): the base stayed", x.octave(0), 0);
        CHECK.same("setThreshold(20): the threshold stayed", x.setThreshold(20), 9);
    }

    private static void clearedSoundIsForgotten() {
        PitchTracker x = new PitchTracker();
        x.feedWave(2, 2, 50, 160);
        CHECK.same("lag(1) of the first sound", x.lag(1), 2);
        CHECK.same("difference(1, 1) of the first sound", x.difference(1, 1), 640000);
        x.clear();
        x.feedWave(2, 4, 50, 160);
        CHECK.same("lag(1) of the second sound", x.lag(1), 4);
        CHECK.same("difference(1, 2) of the second sound", x.difference(1, 2), 640000);
        x.clear();
        x.feedWave(2, 4, 0, 160);
        CHECK.same("lag(1) of the third sound", x.lag(1), 0);
        CHECK.same("candidates(1) of the third sound", x.candidates(1), 0);
        CHECK.same("difference(1, 2) of the third sound", x.difference(1, 2), 0);
        CHECK.same("trackCost() of the third sound", x.trackCost(), 600);
    }

    private static void sample() {
        PitchTracker x = full(2);
        x.feed(-7);
        CHECK.same("sample(2)", x.sample(2), -7);
        int[] wrong = {3, -1, 1024, Integer.MAX_VALUE, Integer.MIN_VALUE};
        for (int k : wrong) {
            CHECK.refusesIndex("sample(" + k + ")", () -> x.sample(k));
        }
        PitchTracker all = full(1024);
        CHECK.same("sample(1023)", all.sample(1023), 0);
        CHECK.refusesIndex("sample(1024)", () -> all.sample(1024));
    }
}
