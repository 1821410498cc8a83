/** Promises 11 to 17: the frames, their numbers and their candidates. */
public final class FramesTest {
    private static final Check CHECK = new Check("FramesTest");

    public static void main(String[] args) {
        frames();
        energy();
        autocorrelation();
        difference();
        loudest();
        meanDifference();
        candidates();
        candidateLags();
        wrongFramesAndLags();
        CHECK.close();
    }

    private static void frames() {
        PitchTracker x = new PitchTracker();
        int[][] due = {{127, 0}, {128, 1}, {159, 1}, {160, 2}, {191, 2}, {192, 3}, {1023, 28}, {1024, 29}};
        for (int[] d : due) {
            while (x.samples() < d[0]) {
                x.feedWave(2, 2, 0, Math.min(400, d[0] - x.samples()));
            }
            CHECK.same("frames() with " + d[0] + " fed", x.frames(), d[1]);
        }
    }

    /** All 0 but for x[40] = 3, x[50] = 4 and x[100] = 5: two frames. */
    private static PitchTracker threePeaks() {
        PitchTracker x = new PitchTracker();
        for (int k = 0; k < 160; k++) {
            x.feed(k == 40 ? 3 : k == 50 ? -4 : k == 100 ? 5 : 0);
        }
        return x;
    }

    private static void energy() {
        PitchTracker x = threePeaks();
        int[][] due = {
            {0, 0, 25}, {0, 36, 25}, {0, 37, 50}, {0, 40, 50}, {0, 41, 41}, {0, 50, 41}, {0, 51, 25},
            {0, 64, 25}, {1, 0, 25}, {1, 4, 25}, {1, 5, 50}, {1, 8, 50}, {1, 9, 41}, {1, 64, 25},
        };
        for (int[] d : due) {
            CHECK.same("energy(" + d[0] + ", " + d[1] + ")", x.energy(d[0], d[1]), d[2]);
        }
        CHECK.refusesArgument("energy(0, 65)", () -> x.energy(0, 65));
        CHECK.refusesArgument("energy(0, -1)", () -> x.energy(0, -1));
        CHECK.refusesIndex("energy(2, 65)", () -> x.energy(2, 65));
        CHECK.refusesIndex("energy(-1, 0)", () -> x.energy(-1, 0));
    }

    private static void autocorrelation() {
        PitchTracker x = threePeaks();
        int[][] due = {
            {0, 1, 0}, {0, 10, -12}, {0, 50, -20}, {0, 60, 15}, {0, 64, 0},
            {1, 10, -12}, {1, 50, -20}, {1, 60, 15}, {1, 61, 0},
        };
        for (int[] d : due) {
            CHECK.same("autocorrelation(" + d[0] + ", " + d[1] + ")", x.autocorrelation(d[0], d[1]), d[2]);
        }
        CHECK.refusesArgument("autocorrelation(0, 0)", () -> x.autocorrelation(0, 0));
        CHECK.refusesArgument("autocorrelation(0, 65)", () -> x.autocorrelation(0, 65));
        CHECK.refusesIndex("autocorrelation(2, 65)", () -> x.autocorrelation(2, 65));
        CHECK.refusesIndex("autocorrelation(-1, 0)", () -> x.autocorrelation(-1, 0));
    }

    private static void difference() {
        PitchTracker x = threePeaks();
        CHECK.same("difference(0, 10)", x.difference(0, 10), 16 + 49 + 9);
        CHECK.same("difference(0, 1)", x.difference(0, 1), 50);
        CHECK.same("difference(0, 50)", x.difference(0, 50), 9 + 16 + 81);
        CHECK.same("difference(0, 64)", x.difference(0, 64), 50);
        CHECK.same("difference(1, 60)", x.difference(1, 60), 4 + 16);
        for (int frame = 0; frame < 7; frame++) {
            PitchTracker noisy = new PitchTracker();
            noisy.feedNoise(9, 100, 320);
            for (int lag = 1; lag <= 64; lag++) {
                int due = noisy.energy(frame, 0) + noisy.energy(frame, lag)
                        - 2 * noisy.autocorrelation(frame, lag);
                CHECK.same("difference(" + frame + ", " + lag + ")", noisy.difference(frame, lag), due);
            }
        }
        CHECK.refusesArgument("difference(0, 0)", () -> x.difference(0, 0));
        CHECK.refusesArgument("difference(0, 65)", () -> x.difference(0, 65));
        CHECK.refusesIndex("difference(2, 0)", () -> x.difference(2, 0));
        CHECK.refusesIndex("difference(-1, 1)", () -> x.difference(-1, 1));
    }

    private static void loudest() {
        PitchTracker x = new PitchTracker();
        x.feedWave(2, 2, 100, 128);
        CHECK.same("energy(0, 64) at the loudest", x.energy(0, 64), 640000);
        CHECK.same("autocorrelation(0, 1) at the loudest", x.autocorrelation(0, 1), -640000);
        CHECK.same("difference(0, 63) at the loudest", x.difference(0, 63), 2560000);
        CHECK.same("meanDifference(0, 63) at the loudest", x.meanDifference(0, 63), 1968);
    }

    private static void meanDifference() {
        PitchTracker x = new PitchTracker();
        x.feedWave(2, 2, 50, 128);
        int[][] due = {{1, 1000}, {2, 0}, {3, 1500}, {4, 0}, {5, 1666}, {63, 1968}, {64, 0}};
        for (int[] d : due) {
            CHECK.same("meanDifference(0, " + d[0] + ")", x.meanDifference(0, d[0]), d[1]);
        }
        PitchTracker silent = new PitchTracker();
        silent.feedWave(2, 2, 0, 128);
        CHECK.same("meanDifference(0, 1) of silence", silent.meanDifference(0, 1), 1000);
        CHECK.same("meanDifference(0, 64) of silence", silent.meanDifference(0, 64), 1000);
        // One sample differs, and only from lag 64 on is it seen: the sum is 0 up to lag 63.
        PitchTracker late = new PitchTracker();
        late.feedWave(2, 2, 0, 127);
        late.feed(1);
        CHECK.same("meanDifference(0, 63) of a late one", late.meanDifference(0, 63), 1000);
        CHECK.same("meanDifference(0, 64) of a late one", late.meanDifference(0, 64), 64000);
        CHECK.refusesArgument("meanDifference(0, 0)", () -> x.meanDifference(0, 0));
        CHECK.refusesArgument("meanDifference(0, 65)", () -> x.meanDifference(0, 65));
        CHECK.refusesIndex("meanDifference(1, 0)", () -> x.meanDifference(1, 0));
        CHECK.refusesIndex("meanDifference(-1, 1)", () -> x.meanDifference(-1, 1));
    }

    private static void candidates() {
        PitchTracker many = new PitchTracker();
        many.feedWave(2, 2, 50, 128);
        CHECK.same("candidates(0) of a period of 2: 8 of 31", many.candidates(0), 8);
        PitchTracker nine = new PitchTracker();
        nine.feedWave(2, 7, 50, 128);
        CHECK.same("candidates(0) of a period of 7: 8 of 9", nine.candidates(0), 8);
        PitchTracker eight = new PitchTracker();
        eight.feedWave(1, 7, 50, 128);
        eight.setThreshold(1);
        CHECK.same("candidates(0) of a triangle of 7", eight.candidates(0), 8);
        PitchTracker one = new PitchTracker();
        one.feedWave(2, 63, 50, 128);
        one.setThreshold(1);
        CHECK.same("candidates(0) of a period of 63", one.candidates(0), 1);
        CHECK.same("candidateLag(0, 0) of a period of 63", one.candidateLag(0, 0), 63);
        PitchTracker none = new PitchTracker();
        none.feedWave(2, 64, 50, 128);
        none.setThreshold(1);
        CHECK.same("candidates(0) of a period of 64", none.candidates(0), 0);
        PitchTracker silent = new PitchTracker();
        silent.feedWave(2, 64, 0, 128);
        silent.setThreshold(100);
        CHECK.same("candidates(0) of silence", silent.candidates(0), 0);
        flatValley();
    }

    /** The differences are 14, 6, 5, 5 and so on: the means 1, 3/5, 3/5, 4/6, 5/7 and so on. */
    private static void flatValley() {
        PitchTracker x = new PitchTracker();
        x.feed(0);
        x.feed(2);
        x.feed(-1);
        x.feedWave(2, 2, 0, 125);
        int[] means = {1000, 600, 600, 666, 714, 750, 777, 800};
        for (int lag = 1; lag <= means.length; lag++) {
            CHECK.same("meanDifference(0, " + lag + ")", x.meanDifference(0, lag), means[lag - 1]);
        }
        int[][] due = {{20, 0}, {59, 0}, {60, 0}, {61, 1}, {100, 1}};
        for (int[] d : due) {
            x.setThreshold(d[0]);
            CHECK.same("candidates(0) at " + d[0] + " percent", x.candidates(0), d[1]);
        }
        CHECK.same("candidateLag(0, 0): of equal means the lower lag", x.candidateLag(0, 0), 2);
    }

    private static void candidateLags() {
        PitchTracker x = new PitchTracker();
        x.feedWave(2, 2, 50, 160);
        for (int k = 0; k < 8; k++) {
            CHECK.same("candidateLag(1, " + k + ")", x.candidateLag(1, k), 2 * k + 2);
        }
        int[] wrong = {-1, 8, 9, Integer.MAX_VALUE, Integer.MIN_VALUE};
        for (int k : wrong) {
            CHECK.refusesIndex("candidateLag(0, " + k + ")", () -> x.candidateLag(0, k));
        }
        CHECK.refusesIndex("candidateLag(2, 0)", () -> x.candidateLag(2, 0));
        CHECK.refusesIndex("candidateLag(-1, 0)", () -> x.candidateLag(-1, 0));
        PitchTracker saw = new PitchTracker();
        saw.feedWave(0, 20, 100, 128);
        CHECK.same("candidates(0) of a saw of 20", saw.candidates(0), 3);
        CHECK.same("candidateLag(0, 0) of a saw of 20", saw.candidateLag(0, 0), 20);
        CHECK.same("candidateLag(0, 1) of a saw of 20", saw.candidateLag(0, 1), 40);
        CHECK.same("candidateLag(0, 2) of a saw of 20", saw.candidateLag(0, 2), 60);
        CHECK.refusesIndex("candidateLag(0, 3) of a saw of 20", () -> saw.candidateLag(0, 3));
    }

    private static void wrongFramesAndLags() {
        PitchTracker x = threePeaks();
        int[] wrong = {2, -1, 29, Integer.MAX_VALUE, Integer.MIN_VALUE};
        for (int frame : wrong) {
            CHECK.refusesIndex("candidates(" + frame + ")", () -> x.candidates(frame));
            CHECK.refusesIndex("energy(" + frame + ", 99)", () -> x.energy(frame, 99));
            CHECK.refusesIndex("autocorrelation(" + frame + ", 99)", () -> x.autocorrelation(frame, 99));
            CHECK.refusesIndex("difference(" + frame + ", 99)", () -> x.difference(frame, 99));
            CHECK.refusesIndex("meanDifference(" + frame + ", 99)", () -> x.meanDifference(frame, 99));
        }
        int[] wide = {Integer.MAX_VALUE, Integer.MIN_VALUE, 65, -1};
        for (int lag : wide) {
            CHECK.refusesArgument("energy(1, " + lag + ")", () -> x.energy(1, lag));
            CHECK.refusesArgument("autocorrelation(1, " + lag + ")", () -> x.autocorrelation(1, lag));
            CHECK.refusesArgument("difference(1, " + lag + ")", () -> x.difference(1, lag));
            CHECK.refusesArgument("meanDifference(1, " + lag + ")", () -> x.meanDifference(1, lag));
        }
    }
}
