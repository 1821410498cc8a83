/** "Terms" from the lags to the candidates, and promises 12 to 17. */
final class FramesEdges {
    private FramesEdges() { }

    /** A call that takes a frame. */
    interface FrameCall {
        void of(PitchTracker x, int frame);
    }

    private interface LagCall {
        void of(PitchTracker x, int lag);
    }

    static void addTo(Edges edges) {
        edges.in("Terms");
        addSums(edges);
        addCandidateTerms(edges);
        edges.in("Promise 12");
        addFrame(edges, (x, frame) -> x.energy(frame, 0));
        edges.addRange("- `shift`: 0 to 64", 0, 64, shift -> Sounds.silence(128).energy(0, shift));
        edges.add("Throws `IllegalArgumentException` if shift is out of range",
                check -> refusedInEachFrame(check, -1, (x, shift) -> x.energy(1, shift)));
        edges.in("Promise 13");
        addFrame(edges, (x, frame) -> x.autocorrelation(frame, 1));
        addLag(edges, (x, lag) -> x.autocorrelation(1, lag));
        edges.in("Promise 14");
        addFrame(edges, (x, frame) -> x.difference(frame, 1));
        addLag(edges, (x, lag) -> x.difference(1, lag));
        edges.in("Promise 15");
        addFrame(edges, (x, frame) -> x.meanDifference(frame, 1));
        addLag(edges, (x, lag) -> x.meanDifference(1, lag));
        edges.add("Returns 1000 times the mean difference, rounded down.", FramesEdges::meanIsRoundedDown);
        edges.in("Promise 16");
        addFrame(edges, (x, frame) -> x.candidates(frame));
        edges.add("Returns 0 to 8.", check -> {
            PitchTracker silent = Sounds.silence(128);
            silent.setThreshold(100);
            check.same("candidates(0) of silence", silent.candidates(0), 0);
            PitchTracker one = Sounds.square(63, 128);
            one.setThreshold(1);
            check.same("candidates(0) of a period of 63", one.candidates(0), 1);
            check.same("candidates(0) of a period of 2: 8 of 31", Sounds.square(2, 128).candidates(0), 8);
        });
        edges.in("Promise 17");
        addFrame(edges, (x, frame) -> x.candidateLag(frame, 0), 2,
                "Throws `IndexOutOfBoundsException` if there is no such frame or candidate");
        edges.add("- `candidate`: from 0, by rising lags", check -> {
            PitchTracker x = Sounds.square(2, 160);
            for (int k = 0; k < 8; k++) {
                check.same("candidateLag(1, " + k + ")", x.candidateLag(1, k), 2 * k + 2);
            }
            check.refusesIndex("candidateLag(1, -1)", () -> x.candidateLag(1, -1));
            check.refusesIndex("candidateLag(1, the lowest number)",
                    () -> x.candidateLag(1, Integer.MIN_VALUE));
        });
        edges.add("if there is no such frame or candidate", FramesEdges::noSuchCandidate);
    }

    /** The frame's own two lines: those of the calls on the frames of a voiced sound. */
    static void addFrame(Edges edges, FrameCall call) {
        addFrame(edges, call, 2, "Throws `IndexOutOfBoundsException` if there is no such frame");
    }

    private static void addFrame(Edges edges, FrameCall call, int period, String refusal) {
        edges.add("- `frame`: from 0", check -> {
            PitchTracker x = Sounds.square(period, 128);
            check.throwsNothing("the frame 0", () -> call.of(x, 0));
            check.refusesIndex("the frame -1", () -> call.of(x, -1));
            check.refusesIndex("the lowest number", () -> call.of(x, Integer.MIN_VALUE));
        });
        edges.add(refusal, check -> {
            check.refusesIndex("the frame 0 of a new object", () -> call.of(new PitchTracker(), 0));
            check.refusesIndex("the frame 0 of 127", () -> call.of(Sounds.square(period, 127), 0));
            check.refusesIndex("the frame 1 of 159", () -> call.of(Sounds.square(period, 159), 1));
            check.throwsNothing("the frame 1 of 160", () -> call.of(Sounds.square(period, 160), 1));
            PitchTracker full = Sounds.square(period, 1024);
            check.throwsNothing("the frame 28 of 1024", () -> call.of(full, 28));
            check.refusesIndex("the frame 29 of 1024", () -> call.of(full, 29));
            check.refusesIndex("the highest number", () -> call.of(full, Integer.MAX_VALUE));
            // 32 times this is 0, going round.
            check.refusesIndex("the frame 134217728", () -> call.of(full, 134217728));
            full.clear();
            check.refusesIndex("the frame 0 after clear()", () -> call.of(full, 0));
        });
    }

    private static void addLag(Edges edges, LagCall call) {
        edges.addRange("- `lag`: 1 to 64", 1, 64, lag -> call.of(Sounds.square(2, 160), lag));
        edges.add("Throws `IllegalArgumentException` if lag is out of range",
                check -> refusedInEachFrame(check, 0, call));
    }

    private static void refusedInEachFrame(Check check, int tooSmall, LagCall call) {
        PitchTracker x = Sounds.square(2, 160);
        int[] wrong = {tooSmall, -2, 65, 128, Integer.MIN_VALUE, Integer.MAX_VALUE};
        for (int lag : wrong) {
            check.refusesArgument("the number " + lag, () -> call.of(x, lag));
        }
        check.throwsNothing("the number 64 in the last frame", () -> call.of(x, 64));
    }

    private static void addSums(Edges edges) {
        edges.add("The energy of a frame at a shift s, 0 to 64, is the sum of y[j + s] * y[j + s] "
                + "for j from 0 to 63.", check -> {
            int[][] due = {{0, 0, 9}, {0, 1, 0}, {10, 10, 9}, {10, 11, 0}, {63, 0, 9}, {64, 0, 0}, {64, 1, 9},
                {73, 9, 0}, {73, 10, 9}, {64, 64, 9}, {127, 64, 9}, {127, 63, 0}, {63, 64, 0}};
            for (int[] d : due) {
                check.same("energy(0, " + d[1] + ") of a 3 at " + d[0],
                        Sounds.peak(128, d[0], 3).energy(0, d[1]), d[2]);
            }
            check.same("the greatest energy", Sounds.squareOf(2, 100, 128).energy(0, 64), 640000);
        });
        edges.add("The autocorrelation at a lag t is the sum of y[j] * y[j + t] for j from 0 to 63.", check -> {
            int[][] due = {{0, 5, 5, 12}, {63, 68, 5, 12}, {64, 69, 5, 0}, {0, 1, 1, 12}, {63, 127, 64, 12},
                {63, 127, 63, 0}, {0, 64, 64, 12}};
            for (int[] d : due) {
                check.same("autocorrelation(0, " + d[2] + ") of peaks at " + d[0] + " and " + d[1],
                        Sounds.peaks(128, d[0], 3, d[1], 4).autocorrelation(0, d[2]), d[3]);
            }
            check.same("the least", Sounds.squareOf(2, 100, 128).autocorrelation(0, 63), -640000);
            check.same("the greatest", Sounds.squareOf(2, 100, 128).autocorrelation(0, 64), 640000);
        });
        edges.add("The difference at a lag t is the sum of (y[j] - y[j + t]) squared for j from 0 to 63", check -> {
            int[][] due = {{0, 5, 5, 49 + 16}, {63, 68, 5, 9 + 49}, {64, 69, 5, 9}, {0, 1, 1, 49 + 16},
                {63, 127, 64, 49}, {63, 127, 63, 9 + 9}, {0, 64, 64, 49}};
            for (int[] d : due) {
                check.same("difference(0, " + d[2] + ") of peaks at " + d[0] + " and " + d[1],
                        Sounds.peaks(128, d[0], 3, d[1], -4).difference(0, d[2]), d[3]);
            }
            check.same("the greatest", Sounds.squareOf(2, 100, 128).difference(0, 63), 2560000);
            check.same("the least", Sounds.squareOf(2, 100, 128).difference(0, 64), 0);
        });
        edges.add("it is the energy at 0 and that at t, together, less twice the autocorrelation at t", check -> {
            PitchTracker x = new PitchTracker();
            x.feedNoise(11, 100, 160);
            for (int lag = 1; lag <= 64; lag++) {
                check.same("difference(1, " + lag + ")", x.difference(1, lag),
                        x.energy(1, 0) + x.energy(1, lag) - 2 * x.autocorrelation(1, lag));
            }
        });
        edges.add("it is 1 if the sum is 0", check -> {
            PitchTracker silent = Sounds.silence(128);
            check.same("meanDifference(0, 1) of silence", silent.meanDifference(0, 1), 1000);
            check.same("meanDifference(0, 64) of silence", silent.meanDifference(0, 64), 1000);
            // Of a last sample of 1 all differences but that at 64 are 0.
            PitchTracker late = Sounds.peak(128, 127, 1);
            check.same("meanDifference(0, 1) of a late peak", late.meanDifference(0, 1), 1000);
            check.same("meanDifference(0, 63) of a late peak", late.meanDifference(0, 63), 1000);
            check.same("meanDifference(0, 64) of a late peak", late.meanDifference(0, 64), 64000);
            // A difference of 0 with a sum above 0 is another thing.
            check.same("meanDifference(0, 2) of a square of 2", Sounds.squareOf(2, 1, 128).meanDifference(0, 2), 0);
        });
    }

    private static void addCandidateTerms(Edges edges) {
        edges.add("A lag t, 2 to 63, is a candidate of a frame", check -> {
            onlyCandidateIs(check, Sounds.square(63, 128), 1, 63);
            onlyCandidateIs(check, flatValley(), 100, 2);
            PitchTracker beyond = Sounds.square(64, 128);
            beyond.setThreshold(1);
            check.same("meanDifference(0, 64) of a square of 64", beyond.meanDifference(0, 64), 0);
            check.same("candidates(0) of a square of 64", beyond.candidates(0), 0);
        });
        edges.add("if its mean difference is below the threshold in percent", check -> {
            // The means are 1, 1/2 and 2/3: the differences 3, 1 and 2.
            PitchTracker half = Sounds.startingWith(1, 0, 1);
            check.same("meanDifference(0, 2)", half.meanDifference(0, 2), 500);
            half.setThreshold(50);
            check.same("candidates(0) at 50 percent of a half", half.candidates(0), 0);
            onlyCandidateIs(check, half, 51, 2);
            PitchTracker none = Sounds.square(63, 128);
            none.setThreshold(1);
            check.same("candidates(0) at 1 percent of 0", none.candidates(0), 1);
        });
        edges.add("less than that at t - 1", check -> {
            PitchTracker flat = flatValley();
            check.same("the difference at 1", flat.difference(0, 1), 14);
            check.same("the difference at 2", flat.difference(0, 2), 6);
            check.same("the difference at 3", flat.difference(0, 3), 5);
            flat.setThreshold(100);
            check.same("candidates(0), the lag 3 is none", flat.candidates(0), 1);
            PitchTracker silent = Sounds.silence(128);
            silent.setThreshold(100);
            check.same("candidates(0) of equal means", silent.candidates(0), 0);
        });
        edges.add("and not greater than that at t + 1", check -> {
            onlyCandidateIs(check, flatValley(), 61, 2);
            PitchTracker falling = Sounds.startingWith(-1, 2, 6, -6, 2);
            falling.setThreshold(100);
            check.same("candidateLag(0, 0) of falling means", falling.candidateLag(0, 0), 4);
        });
        edges.add("(fractions are compared exactly)", FramesEdges::fractionsAreExact);
        edges.add("Of more than 8 candidates the 8 with the lowest lags count.", FramesEdges::lowestEightCount);
        edges.add("The cost of a candidate is 1000 times its mean difference, rounded down.", check -> {
            // The mean at the lag 4 is 4 * 89 / 596, that is 0.597 and some.
            PitchTracker x = Sounds.startingWith(-1, 2, 6, -6, 2);
            x.setThreshold(60);
            x.setCosts(598, 0, 0);
            check.same("lag(0) at 598 for unvoiced", x.lag(0), 4);
            check.same("trackCost() at 598 for unvoiced", x.trackCost(), 597);
        });
        edges.add("Each frame also has the candidate \"unvoiced\", with the lag 0, and the cost of being unvoiced.",
                check -> {
            PitchTracker silent = Sounds.silence(128);
            check.same("lag(0) of silence", silent.lag(0), 0);
            check.same("trackCost() of silence", silent.trackCost(), 300);
            PitchTracker many = Sounds.square(2, 128);
            many.setCosts(0, 0, 0);
            check.same("candidates(0) without it", many.candidates(0), 8);
            check.same("lag(0) of eight candidates as cheap", many.lag(0), 0);
        });
    }

    private static void onlyCandidateIs(Check check, PitchTracker x, int percent, int lag) {
        x.setThreshold(percent);
        check.same("candidates(0) at " + percent + " percent", x.candidates(0), 1);
        check.same("candidateLag(0, 0) at " + percent + " percent", x.candidateLag(0, 0), lag);
    }

    /** The differences are 14, 6, 5, 5 and so on: the means 1, 3/5, 3/5, 2/3, 5/7 and so on. */
    private static PitchTracker flatValley() {
        return Sounds.startingWith(0, 2, -1);
    }

    /** The means at 3 and 4 are 303/507 and 356/596: both 0.597 and some, that at 4 a little less. */
    private static void fractionsAreExact(Check check) {
        PitchTracker x = Sounds.startingWith(-1, 2, 6, -6, 2);
        check.same("meanDifference(0, 3)", x.meanDifference(0, 3), 597);
        check.same("meanDifference(0, 4)", x.meanDifference(0, 4), 597);
        onlyCandidateIs(check, x, 60, 4);
    }

    private static void lowestEightCount(Check check) {
        PitchTracker nine = Sounds.square(7, 128);
        check.same("candidates(0) of 9", nine.candidates(0), 8);
        for (int k = 0; k < 8; k++) {
            check.same("candidateLag(0, " + k + ") of 9", nine.candidateLag(0, k), 7 * k + 7);
        }
        PitchTracker most = Sounds.square(2, 128);
        check.same("candidateLag(0, 7), the last of 31", most.candidateLag(0, 7), 16);
        check.refusesIndex("candidateLag(0, 8), the ninth", () -> most.candidateLag(0, 8));
        PitchTracker fewer = Sounds.square(8, 128);
        check.same("candidates(0) of 7", fewer.candidates(0), 7);
        check.same("lag(0) ahead of waves of 56, the eighth", sevensAheadOf(56).lag(0), 56);
        check.same("trackCost() ahead of waves of 56", sevensAheadOf(56).trackCost(), 40);
        check.same("lag(0) ahead of waves of 63, the ninth", sevensAheadOf(63).lag(0), 7);
        check.same("trackCost() ahead of waves of 63", sevensAheadOf(63).trackCost(), 215);
    }

    /** A square of 7, and then one whose last wave in each such period is lower. A jump is dear. */
    private static PitchTracker sevensAheadOf(int period) {
        PitchTracker x = Sounds.square(7, 196);
        for (int k = 0; k < 4; k++) {
            x.feedWave(2, 7, 50, period - 7);
            x.feedWave(2, 7, 20, 7);
        }
        x.setCosts(1000, 100, 1000);
        return x;
    }

    private static void meanIsRoundedDown(Check check) {
        PitchTracker x = flatValley();
        int[] due = {1000, 600, 600, 666, 714, 750, 777, 800};
        for (int lag = 1; lag <= due.length; lag++) {
            check.same("meanDifference(0, " + lag + ")", x.meanDifference(0, lag), due[lag - 1]);
        }
        // 63 / 32 is 1.96875.
        check.same("meanDifference(0, 63) of the loudest",
                Sounds.squareOf(2, 100, 128).meanDifference(0, 63), 1968);
    }

    private static void noSuchCandidate(Check check) {
        PitchTracker saw = Sounds.waves(new int[] {0, 20, 100, 128});
        check.same("candidateLag(0, 2) of 3", saw.candidateLag(0, 2), 60);
        check.refusesIndex("candidateLag(0, 3) of 3", () -> saw.candidateLag(0, 3));
        check.refusesIndex("candidateLag(0, 7) of 3", () -> saw.candidateLag(0, 7));
        check.refusesIndex("candidateLag(0, the highest number)",
                () -> saw.candidateLag(0, Integer.MAX_VALUE));
        PitchTracker silent = Sounds.silence(128);
        check.refusesIndex("candidateLag(0, 0) of silence", () -> silent.candidateLag(0, 0));
        PitchTracker both = Sounds.square(2, 128);
        check.refusesIndex("candidateLag(1, 8)", () -> both.candidateLag(1, 8));
        check.refusesIndex("candidateLag(0, 8)", () -> both.candidateLag(0, 8));
    }
}
