/** Promises 6 to 8: the threshold, the costs, the temperament. */
public final class SettingsTest {
    private static final Check CHECK = new Check("SettingsTest");

    public static void main(String[] args) {
        threshold();
        thresholdRange();
        costs();
        costRanges();
        temperament();
        temperamentRanges();
        CHECK.close();
    }

    /** One frame with the lag 2. */
    private static PitchTracker tone() {
        PitchTracker x = new PitchTracker();
        x.feedWave(2, 2, 50, 128);
        return x;
    }

    private static void threshold() {
        PitchTracker x = new PitchTracker();
        CHECK.same("setThreshold(1)", x.setThreshold(1), 20);
        CHECK.same("setThreshold(100)", x.setThreshold(100), 1);
        CHECK.same("setThreshold(55)", x.setThreshold(55), 100);
        thresholdIsStrict();
    }

    private static void thresholdIsStrict() {
        PitchTracker x = new PitchTracker();
        x.feedWave(2, 2, 10, 64);
        x.feedNoise(3, 10, 64);
        double[] means = means(x);
        for (int percent = 1; percent <= 100; percent++) {
            x.setThreshold(percent);
            int due = 0;
            for (int lag = 2; lag <= 63; lag++) {
                due += isCandidate(means, lag, percent) ? 1 : 0;
            }
            CHECK.same("candidates(0) at " + percent + " percent", x.candidates(0), Math.min(due, 8));
        }
        PitchTracker half = halfAtLagTwo();
        CHECK.same("meanDifference(0, 2)", half.meanDifference(0, 2), 500);
        half.setThreshold(50);
        CHECK.same("candidates(0) at 50 percent", half.candidates(0), 0);
        half.setThreshold(51);
        CHECK.same("candidates(0) at 51 percent", half.candidates(0), 1);
        CHECK.same("candidateLag(0, 0) at 51 percent", half.candidateLag(0, 0), 2);
    }

    private static boolean isCandidate(double[] means, int lag, int percent) {
        double own = means[lag];
        return own * 100 < percent && own < means[lag - 1] && own <= means[lag + 1];
    }

    private static double[] means(PitchTracker x) {
        double[] means = new double[65];
        long sum = 0;
        for (int lag = 1; lag <= 64; lag++) {
            long difference = x.difference(0, lag);
            sum += difference;
            means[lag] = sum == 0 ? 1 : (double) lag * difference / sum;
        }
        return means;
    }

    /** The samples are 1, 0, 1 and then 0: the mean at 2 is 2 * 1 / (3 + 1), that at 3 is 1. */
    private static PitchTracker halfAtLagTwo() {
        PitchTracker x = new PitchTracker();
        x.feed(1);
        x.feed(0);
        x.feed(1);
        x.feedWave(2, 2, 0, 125);
        CHECK.same("difference(0, 1)", x.difference(0, 1), 3);
        CHECK.same("difference(0, 2)", x.difference(0, 2), 1);
        CHECK.same("difference(0, 3)", x.difference(0, 3), 2);
        return x;
    }

    private static void thresholdRange() {
        PitchTracker x = new PitchTracker();
        int[] wrong = {0, -1, 101, Integer.MAX_VALUE, Integer.MIN_VALUE};
        for (int percent : wrong) {
            CHECK.refusesArgument("setThreshold(" + percent + ")", () -> x.setThreshold(percent));
        }
        CHECK.same("setThreshold(20) after refused ones", x.setThreshold(20), 20);
    }

    private static void costs() {
        PitchTracker silent = new PitchTracker();
        silent.feedWave(2, 2, 0, 192);
        CHECK.same("trackCost() of three unvoiced frames", silent.trackCost(), 900);
        silent.setCosts(1000, 0, 0);
        CHECK.same("trackCost() at 1000 for unvoiced", silent.trackCost(), 3000);
        silent.setCosts(0, 100, 1000);
        CHECK.same("trackCost() at 0 for unvoiced", silent.trackCost(), 0);

        PitchTracker voiced = tone();
        CHECK.same("lag(0) at 300 for unvoiced", voiced.lag(0), 2);
        voiced.setCosts(0, 0, 0);
        CHECK.same("lag(0) at 0 for unvoiced: the lowest of equal ones", voiced.lag(0), 0);
        voiced.setCosts(1, 0, 0);
        CHECK.same("lag(0) at 1 for unvoiced", voiced.lag(0), 2);
    }

    private static void costRanges() {
        PitchTracker x = new PitchTracker();
        x.feedWave(2, 2, 0, 128);
        int[][] wrong = {
            {-1, 0, 0}, {1001, 0, 0}, {0, -1, 0}, {0, 101, 0}, {0, 0, -1}, {0, 0, 1001},
            {Integer.MIN_VALUE, 0, 0}, {0, Integer.MAX_VALUE, 0}, {0, 0, Integer.MAX_VALUE},
        };
        for (int[] w : wrong) {
            CHECK.refusesArgument("setCosts(" + w[0] + ", " + w[1] + ", " + w[2] + ")",
                    () -> x.setCosts(w[0], w[1], w[2]));
            CHECK.same("trackCost() after refused costs", x.trackCost(), 300);
        }
        CHECK.throwsNothing("setCosts(1000, 100, 1000)", () -> x.setCosts(1000, 100, 1000));
        CHECK.throwsNothing("setCosts(0, 0, 0)", () -> x.setCosts(0, 0, 0));
    }

    private static void temperament() {
        PitchTracker x = tone();
        int[] bases = {128, 256, 512, 1024, 2048, 4096, 8192};
        for (int temperament = 0; temperament <= 2; temperament++) {
            for (int octave = 0; octave < bases.length; octave++) {
                x.setTemperament(temperament, bases[octave]);
                CHECK.same("octave(0) at " + bases[octave], x.octave(0), octave);
                CHECK.same("name(0) at " + bases[octave], x.name(0), 0);
            }
        }
    }

    private static void temperamentRanges() {
        PitchTracker x = tone();
        int[][] wrong = {
            {-1, 64}, {3, 64}, {0, 63}, {0, 8193}, {0, -64},
            {Integer.MAX_VALUE, 64}, {Integer.MIN_VALUE, 64}, {0, Integer.MAX_VALUE},
        };
        for (int[] w : wrong) {
            CHECK.refusesArgument("setTemperament(" + w[0] + ", " + w[1] + ")",
                    () -> x.setTemperament(w[0], w[1]));
            CHECK.same("octave(0) after a refused temperament", x.octave(0), 5);
        }
        CHECK.throwsNothing("setTemperament(2, 8192)", () -> x.setTemperament(2, 8192));
        CHECK.throwsNothing("setTemperament(0, 64)", () -> x.setTemperament(0, 64));
    }
}
