/** "What it is", "Terms" up to the frames, and promises 1 to 5 and 9 to 11. */
final class SoundEdges {
    private SoundEdges() { }

    static void addTo(Edges edges) {
        edges.in("What it is");
        edges.add("An object is used for at most 512 calls after it has been made", SoundEdges::lastCall);
        addTerms(edges);
        edges.in("Promise 1");
        edges.add("No sound", SoundEdges::newObjectIsEmpty);
        edges.add("the threshold 20 percent, the costs 300 unvoiced, 10 for a jump and 200 for a change, "
                + "the temperament 0, the base 4096", SoundEdges::newObjectsSettings);
        addFeed(edges);
        addWave(edges);
        addNoise(edges);
        addClear(edges);
        addSamplesAndFrames(edges);
    }

    private static void addTerms(Edges edges) {
        edges.in("Terms");
        edges.add("At most 1024 samples x[0], x[1] and so on are fed, each -100 to 100.",
                SoundEdges::fullOfAllKinds);
        edges.add("there is such a frame if 128 samples from there on were fed", SoundEdges::eachFrameBegins);
        edges.add("Its samples are y[0] to y[127], y[j] being x[32 * f + j].", SoundEdges::framesEnds);
        edges.add("A call that throws an exception changes nothing.", SoundEdges::refusedCallsChangeNothing);
        edges.add("If several exceptions apply, the one that is named first in the throws clause is thrown.",
                SoundEdges::firstNamedException);
    }

    private static void lastCall(Check check) {
        PitchTracker x = new PitchTracker();
        for (int call = 1; call <= 128; call++) {
            check.same("call " + call + ": feed", x.feed(call % 2 == 0 ? 50 : -50), call);
        }
        for (int call = 129; call <= 511; call += 2) {
            boolean high = call % 4 == 1;
            x.setTemperament(0, high ? 4096 : 64);
            check.same("call " + (call + 1) + ": octave(0)", x.octave(0), high ? 5 : 0);
        }
    }

    private static void fullOfAllKinds(Check check) {
        PitchTracker x = new PitchTracker();
        check.same("feedWave of 400", x.feedWave(1, 64, 100, 400), 400);
        check.same("feedNoise of 400", x.feedNoise(7, 100, 400), 800);
        check.same("feedWave of 223", x.feedWave(2, 3, 100, 223), 1023);
        check.same("feed as the last", x.feed(-100), 1024);
        check.refusesState("feed into the full one", () -> x.feed(0));
        check.refusesState("feedWave into the full one", () -> x.feedWave(0, 2, 0, 1));
        check.refusesState("feedNoise into the full one", () -> x.feedNoise(0, 0, 1));
        check.same("samples() of the full one", x.samples(), 1024);
        check.same("sample(1023), the last", x.sample(1023), -100);
        int lowest = 0;
        int highest = 0;
        for (int k = 0; k < 1024; k += 3) {
            int sample = x.sample(k);
            lowest = Math.min(lowest, sample);
            highest = Math.max(highest, sample);
        }
        check.same("the lowest sample", lowest, -100);
        check.same("the highest sample", highest, 100);
    }

    private static void eachFrameBegins(Check check) {
        PitchTracker x = new PitchTracker();
        check.same("frames() with 0 fed", x.frames(), 0);
        x.feedWave(2, 2, 50, 127);
        for (int frame = 0; frame <= 28; frame++) {
            check.same("frames() with " + x.samples() + " fed", x.frames(), frame);
            int beyond = frame;
            check.refusesIndex("energy(" + frame + ", 0) one sample ahead", () -> x.energy(beyond, 0));
            x.feed(50);
            check.same("frames() with " + x.samples() + " fed", x.frames(), frame + 1);
            check.throwsNothing("energy(" + frame + ", 0) at once", () -> x.energy(beyond, 0));
            if (frame < 28) {
                x.feedWave(2, 2, 50, 31);
            }
        }
        check.same("samples() at the end", x.samples(), 1024);
        check.refusesIndex("energy(29, 0) of the full one", () -> x.energy(29, 0));
    }

    /** energy(f, 0) sums up y[0] to y[63], and energy(f, 64) y[64] to y[127]. */
    private static void framesEnds(Check check) {
        PitchTracker last = Sounds.peak(160, 159, 5);
        check.same("x[159] is y[127] of the frame 1", last.energy(1, 64), 25);
        check.same("x[159] is none of the frame 0", last.energy(0, 64), 0);
        PitchTracker lastOfFirst = Sounds.peak(160, 127, 5);
        check.same("x[127] is y[127] of the frame 0", lastOfFirst.energy(0, 64), 25);
        PitchTracker beyond = Sounds.peak(160, 128, 5);
        check.same("x[128] is none of the frame 0", beyond.energy(0, 64), 0);
        check.same("x[128] is y[96] of the frame 1", beyond.energy(1, 64), 25);
        PitchTracker first = Sounds.peak(160, 32, 5);
        check.same("x[32] is y[0] of the frame 1", first.energy(1, 0), 25);
        check.same("y[0] is not at the shift 1", first.energy(1, 1), 0);
        PitchTracker ahead = Sounds.peak(160, 31, 5);
        check.same("x[31] is none of the frame 1", ahead.energy(1, 0), 0);
        PitchTracker end = Sounds.silence(1023);
        end.feed(5);
        check.same("x[1023] is y[127] of the frame 28", end.energy(28, 64), 25);
        check.same("x[1023] is none of the frame 27", end.energy(27, 64), 0);
    }

    private static void refusedCallsChangeNothing(Check check) {
        PitchTracker full = Sounds.mixed();
        refuseAll(check, full);
        check.refusesState("feed(0)", () -> full.feed(0));
        check.refusesState("feedWave(2, 2, 9, 1)", () -> full.feedWave(2, 2, 9, 1));
        check.refusesState("feedNoise(1, 9, 1)", () -> full.feedNoise(1, 9, 1));
        check.same("the full sound", Sounds.told(full), Sounds.told(Sounds.mixed()));
        check.same("the full one's threshold", full.setThreshold(50), 20);

        PitchTracker some = growing();
        some.trackCost();
        refuseAll(check, some);
        check.refusesState("feedWave(2, 2, 9, 25)", () -> some.feedWave(2, 2, 9, 25));
        check.refusesState("feedNoise(1, 9, 25)", () -> some.feedNoise(1, 9, 25));
        check.same("feedWave(2, 2, 9, 24)", some.feedWave(2, 2, 9, 24), 1024);
        PitchTracker twin = growing();
        twin.feedWave(2, 2, 9, 24);
        check.same("the growing sound", Sounds.told(some), Sounds.told(twin));
        check.same("the growing one's threshold", some.setThreshold(1), 34);
    }

    /** 1000 samples, and settings that no new object has; each temperament gives other names. */
    private static PitchTracker growing() {
        PitchTracker x = Sounds.waves(new int[] {1, 20, 60, 300}, new int[] {1, 45, 60, 300},
                new int[] {2, 7, 90, 400});
        x.setThreshold(34);
        x.setCosts(250, 7, 90);
        x.setTemperament(1, 3960);
        return x;
    }

    private static void refuseAll(Check check, PitchTracker x) {
        check.refusesArgument("feed(101)", () -> x.feed(101));
        check.refusesArgument("feedWave(3, 2, 9, 9)", () -> x.feedWave(3, 2, 9, 9));
        check.refusesArgument("feedWave(0, 65, 9, 9)", () -> x.feedWave(0, 65, 9, 9));
        check.refusesArgument("feedWave(0, 2, 101, 9)", () -> x.feedWave(0, 2, 101, 9));
        check.refusesArgument("feedWave(0, 2, 9, 401)", () -> x.feedWave(0, 2, 9, 401));
        check.refusesArgument("feedNoise(1, 101, 9)", () -> x.feedNoise(1, 101, 9));
        check.refusesArgument("feedNoise(1, 9, 401)", () -> x.feedNoise(1, 9, 401));
        check.refusesArgument("setThreshold(0)", () -> x.setThreshold(0));
        check.refusesArgument("setCosts(1001, 0, 0)", () -> x.setCosts(1001, 0, 0));
        check.refusesArgument("setCosts(0, 101, 0)", () -> x.setCosts(0, 101, 0));
        check.refusesArgument("setCosts(0, 0, 1001)", () -> x.setCosts(0, 0, 1001));
        check.refusesArgument("setTemperament(3, 64)", () -> x.setTemperament(3, 64));
        check.refusesArgument("setTemperament(2, 63)", () -> x.setTemperament(2, 63));
        check.refusesArgument("setTemperament(2, 8193)", () -> x.setTemperament(2, 8193));
        check.refusesIndex("sample(-1)", () -> x.sample(-1));
        check.refusesArgument("energy(0, 65)", () -> x.energy(0, 65));
        check.refusesArgument("autocorrelation(0, 0)", () -> x.autocorrelation(0, 0));
        check.refusesArgument("difference(0, 65)", () -> x.difference(0, 65));
        check.refusesArgument("meanDifference(0, 0)", () -> x.meanDifference(0, 0));
        check.refusesIndex("candidates(29)", () -> x.candidates(29));
        check.refusesIndex("candidateLag(0, 8)", () -> x.candidateLag(0, 8));
        check.refusesIndex("lag(29)", () -> x.lag(29));
        check.refusesIndex("period(29)", () -> x.period(29));
        check.refusesIndex("name(-1)", () -> x.name(-1));
        check.refusesIndex("octave(-1)", () -> x.octave(-1));
        check.refusesIndex("isOnset(29)", () -> x.isOnset(29));
        check.refusesIndex("noteStart(-1)", () -> x.noteStart(-1));
        check.refusesIndex("noteLength(29)", () -> x.noteLength(29));
        check.refusesIndex("noteOf(29)", () -> x.noteOf(29));
    }

    private static void firstNamedException(Check check) {
        PitchTracker full = Sounds.silence(1024);
        check.refusesArgument("feed of a full one", () -> full.feed(-101));
        check.refusesArgument("feedWave, shape, full", () -> full.feedWave(-1, 2, 0, 1));
        check.refusesArgument("feedWave, period, full", () -> full.feedWave(0, 1, 0, 1));
        check.refusesArgument("feedWave, amplitude, full", () -> full.feedWave(0, 2, -1, 1));
        check.refusesArgument("feedWave, samples, full", () -> full.feedWave(0, 2, 0, 401));
        check.refusesArgument("feedNoise, amplitude, full", () -> full.feedNoise(0, -1, 1));
        check.refusesArgument("feedNoise, samples, full", () -> full.feedNoise(0, 0, 401));
        int[] lags = {-1, 0, 65, Integer.MIN_VALUE, Integer.MAX_VALUE};
        for (int lag : lags) {
            check.refusesIndex("autocorrelation(29, " + lag + ")", () -> full.autocorrelation(29, lag));
            check.refusesIndex("difference(29, " + lag + ")", () -> full.difference(29, lag));
            check.refusesIndex("meanDifference(-1, " + lag + ")", () -> full.meanDifference(-1, lag));
            int shift = lag == 0 ? -1 : lag;
            check.refusesIndex("energy(29, " + shift + ")", () -> full.energy(29, shift));
        }
    }

    private static void newObjectIsEmpty(Check check) {
        PitchTracker x = new PitchTracker();
        check.same("samples()", x.samples(), 0);
        check.same("frames()", x.frames(), 0);
        check.same("trackCost()", x.trackCost(), 0);
        check.same("notes()", x.notes(), 0);
        refusesAllIndices(check, x);
        check.same("clear()", x.clear(), 0);
    }

    static void refusesAllIndices(Check check, PitchTracker x) {
        check.refusesIndex("sample(0)", () -> x.sample(0));
        check.refusesIndex("energy(0, 0)", () -> x.energy(0, 0));
        check.refusesIndex("autocorrelation(0, 1)", () -> x.autocorrelation(0, 1));
        check.refusesIndex("difference(0, 1)", () -> x.difference(0, 1));
        check.refusesIndex("meanDifference(0, 1)", () -> x.meanDifference(0, 1));
        check.refusesIndex("candidates(0)", () -> x.candidates(0));
        check.refusesIndex("candidateLag(0, 0)", () -> x.candidateLag(0, 0));
        check.refusesIndex("lag(0)", () -> x.lag(0));
        check.refusesIndex("period(0)", () -> x.period(0));
        check.refusesIndex("name(0)", () -> x.name(0));
        check.refusesIndex("octave(0)", () -> x.octave(0));
        check.refusesIndex("isOnset(0)", () -> x.isOnset(0));
        check.refusesIndex("noteStart(0)", () -> x.noteStart(0));
        check.refusesIndex("noteLength(0)", () -> x.noteLength(0));
        check.refusesIndex("noteOf(0)", () -> x.noteOf(0));
    }

    /** The same settings said aloud change nothing, and each of their neighbours changes what is told. */
    private static void newObjectsSettings(Check check) {
        String due = Sounds.told(Sounds.mixed());
        PitchTracker same = Sounds.mixed();
        check.same("the threshold", same.setThreshold(20), 20);
        same.setCosts(300, 10, 200);
        same.setTemperament(0, 4096);
        check.same("all that is told", Sounds.told(same), due);
        int[][] others = {{299, 10, 200}, {301, 10, 200}, {300, 9, 200}, {300, 11, 200}, {300, 10, 199},
            {300, 10, 201}};
        for (int[] costs : others) {
            PitchTracker other = Sounds.mixed();
            other.setCosts(costs[0], costs[1], costs[2]);
            check.isTrue("another cost is told at " + costs[0] + ", " + costs[1] + ", " + costs[2],
                    !Sounds.told(other).equals(due));
        }
        // 2814.98 and 2234.16 lie halfway between two patterns of 4096, of 4097 2815.66 does, and of
        // 4095 2233.61.
        check.same("the name of the period 2815", blurred(44, 41, 2).name(0), 6);
        check.same("the name of the period 2234", blurred(35, 46, 3).name(0), 11);
    }

    private static PitchTracker blurred(int period, int amplitude, int seed) {
        PitchTracker x = new PitchTracker();
        x.feedWave(1, period, amplitude, 128 - 10 * seed);
        x.feedNoise(seed, amplitude, 10 * seed);
        return x;
    }

    private static void addFeed(Edges edges) {
        edges.in("Promise 2");
        edges.addRange("- `value`: -100 to 100", -100, 100, value -> new PitchTracker().feed(value));
        edges.add("Returns how many samples were fed so far.", check -> {
            PitchTracker x = new PitchTracker();
            check.same("the first", x.feed(1), 1);
            check.same("the second", x.feed(1), 2);
            x.clear();
            check.same("the first after clear()", x.feed(1), 1);
            x.feedWave(2, 2, 0, 400);
            x.feedWave(2, 2, 0, 400);
            x.feedWave(2, 2, 0, 222);
            check.same("the last", x.feed(1), 1024);
        });
        edges.add("Throws `IllegalArgumentException` if value is out of range", check -> {
            PitchTracker x = new PitchTracker();
            x.feed(100);
            check.refusesArgument("feed(101)", () -> x.feed(101));
            check.refusesArgument("feed(-101)", () -> x.feed(-101));
            check.same("feed(-100)", x.feed(-100), 2);
            check.same("sample(0)", x.sample(0), 100);
            check.same("sample(1)", x.sample(1), -100);
        });
        edges.add("Throws `IllegalStateException` if 1024 were fed", check -> {
            PitchTracker x = Sounds.silence(1023);
            check.same("feed(7) with 1023 fed", x.feed(7), 1024);
            check.refusesState("feed(8) with 1024 fed", () -> x.feed(8));
            check.same("samples()", x.samples(), 1024);
            check.same("sample(1023)", x.sample(1023), 7);
            x.clear();
            check.same("feed(8) after clear()", x.feed(8), 1);
        });
    }

    private static void addWave(Edges edges) {
        edges.in("Promise 3");
        edges.addRange("- `shape`: 0 to 2", 0, 2, shape -> new PitchTracker().feedWave(shape, 9, 9, 9));
        edges.addRange("- `period`: 2 to 64", 2, 64, period -> new PitchTracker().feedWave(0, period, 9, 9));
        edges.addRange("- `amplitude`: 0 to 100", 0, 100, a -> new PitchTracker().feedWave(0, 9, a, 9));
        edges.addRange("- `samples`: 1 to 400: how many are fed", 1, 400,
                samples -> new PitchTracker().feedWave(0, 9, 9, samples));
        edges.add("Its sample i, from 0 on, with p = i modulo the period", SoundEdges::waveGoesRound);
        edges.add("0 (saw): 2 * a * p / n, rounded down, less a;", check -> {
            waveIs(check, 0, 3, 100, -100, -34, 33, -100);
            waveIs(check, 0, 2, 1, -1, 0, -1);
            waveIs(check, 0, 64, 0, 0, 0, 0);
            // 200 * 63 / 64 is 196.875.
            check.same("the saw's last sample", Sounds.waves(new int[] {0, 64, 100, 64}).sample(63), 96);
        });
        edges.add("1 (triangle): with m = 2 * p, if that is at most n, otherwise 2 * n - 2 * p: "
                + "2 * a * m / n, rounded down, less a;", check -> {
            waveIs(check, 1, 2, 100, -100, 100, -100);
            waveIs(check, 1, 3, 100, -100, 33, 33, -100);
            waveIs(check, 1, 4, 5, -5, 0, 5, 0, -5);
            waveIs(check, 1, 7, 10, -10, -5, 1, 7, 7, 1, -5, -10);
            PitchTracker longest = Sounds.waves(new int[] {1, 64, 100, 64});
            // 200 * 62 / 64 is 193.75, and 200 * 2 / 64 is 6.25.
            check.same("the triangle's sample 31", longest.sample(31), 93);
            check.same("the triangle's sample 32", longest.sample(32), 100);
            check.same("the triangle's sample 33", longest.sample(33), 93);
            check.same("the triangle's sample 63", longest.sample(63), -94);
        });
        edges.add("2 (square): a if 2 * p is less than n, otherwise -a.", check -> {
            waveIs(check, 2, 2, 100, 100, -100, 100);
            waveIs(check, 2, 3, 7, 7, 7, -7, 7);
            waveIs(check, 2, 4, 7, 7, 7, -7, -7, 7);
        });
        edges.add("Returns how many samples were fed so far.", check -> {
            PitchTracker x = new PitchTracker();
            check.same("the fewest", x.feedWave(0, 9, 9, 1), 1);
            check.same("the most", x.feedWave(0, 9, 9, 400), 401);
            x.clear();
            check.same("after clear()", x.feedWave(0, 9, 9, 3), 3);
        });
        edges.add("Throws `IllegalArgumentException` if shape, period, amplitude or samples is out of range",
                check -> {
            PitchTracker x = new PitchTracker();
            check.refusesArgument("all wrong", () -> x.feedWave(3, 65, 101, 401));
            check.refusesArgument("all wrong and low", () -> x.feedWave(-1, 1, -1, 0));
            check.refusesArgument("a period of 0", () -> x.feedWave(0, 0, 9, 9));
            check.same("samples()", x.samples(), 0);
        });
        edges.add("Throws `IllegalStateException` if more than 1024 would be fed",
                check -> fillsUp(check, (x, samples) -> x.feedWave(2, 2, 9, samples), 9));
    }

    private static void waveGoesRound(Check check) {
        int[] periods = {2, 3, 63, 64};
        for (int shape = 0; shape <= 2; shape++) {
            for (int period : periods) {
                PitchTracker x = Sounds.waves(new int[] {shape, period, 83, 400});
                int[] samples = new int[400];
                for (int k = 0; k < 400; k++) {
                    samples[k] = x.sample(k);
                    check.same("sample " + k + " of the shape " + shape + ", as in the first period",
                            samples[k], samples[k % period]);
                }
            }
        }
        PitchTracker two = Sounds.waves(new int[] {0, 5, 10, 3}, new int[] {0, 5, 10, 6});
        int[] due = {-10, -6, -2, -10, -6, -2, 2, 6, -10};
        for (int k = 0; k < due.length; k++) {
            check.same("sample " + k + " of two waves", two.sample(k), due[k]);
        }
    }

    private static void waveIs(Check check, int shape, int period, int amplitude, int... due) {
        PitchTracker x = new PitchTracker();
        x.feedWave(shape, period, amplitude, due.length);
        for (int k = 0; k < due.length; k++) {
            check.same("sample " + k + " of the period " + period, x.sample(k), due[k]);
        }
    }

    private interface Feeding {
        int of(PitchTracker x, int samples);
    }

    private static void fillsUp(Check check, Feeding feeding, int lastSample) {
        PitchTracker one = Sounds.silence(1023);
        check.refusesState("2 with room for 1", () -> feeding.of(one, 2));
        check.same("samples() after it", one.samples(), 1023);
        check.same("1 with room for 1", feeding.of(one, 1), 1024);
        check.refusesState("1 with no room", () -> feeding.of(one, 1));
        check.same("sample(1023)", one.sample(1023), lastSample);
        PitchTracker most = Sounds.silence(625);
        check.refusesState("400 with room for 399", () -> feeding.of(most, 400));
        check.refusesIndex("sample(625) after it", () -> most.sample(625));
        check.same("399 with room for 399", feeding.of(most, 399), 1024);
        PitchTracker exact = Sounds.silence(624);
        check.same("400 with room for 400", feeding.of(exact, 400), 1024);
        exact.clear();
        check.same("400 after clear()", feeding.of(exact, 400), 400);
    }

    private static void addNoise(Edges edges) {
        edges.in("Promise 4");
        edges.add("- `seed`: any number", check -> {
            int[] seeds = {Integer.MIN_VALUE, Integer.MIN_VALUE + 1, -1, 0, 1, Integer.MAX_VALUE};
            for (int seed : seeds) {
                noiseIs(check, seed, 100, 100);
            }
        });
        edges.addRange("- `amplitude`: 0 to 100", 0, 100, a -> new PitchTracker().feedNoise(1, a, 9));
        edges.addRange("- `samples`: 1 to 400", 1, 400, samples -> new PitchTracker().feedNoise(1, 9, samples));
        edges.add("it becomes z * 1103515245 + 12345 (as an int, going round)", check -> {
            // The seed 2147483647 goes round to 1043980748, and that to -1858503659.
            PitchTracker x = new PitchTracker();
            x.feedNoise(Integer.MAX_VALUE, 100, 2);
            check.same("the first sample", x.sample(0), 15929 % 201 - 100);
            check.same("the second sample", x.sample(1), 37177 % 201 - 100);
            noiseIs(check, Integer.MAX_VALUE, 37, 400);
        });
        edges.add("the sample is the part of z above its lowest 16 bits, as a number from 0 to 65535, modulo "
                + "2 * amplitude + 1, less the amplitude", check -> {
            // The second z of the seed 1 is -1770082073; above its lowest 16 bits stands 38526.
            PitchTracker x = new PitchTracker();
            x.feedNoise(1, 100, 2);
            check.same("a sample of a z below 0", x.sample(1), 38526 % 201 - 100);
            noiseIs(check, -77, 0, 400);
            noiseIs(check, -77, 1, 400);
            noiseIs(check, -77, 100, 400);
        });
        edges.add("Returns how many samples were fed so far.", check -> {
            PitchTracker x = new PitchTracker();
            check.same("the fewest", x.feedNoise(0, 9, 1), 1);
            check.same("the most", x.feedNoise(0, 9, 400), 401);
            x.clear();
            check.same("after clear()", x.feedNoise(0, 9, 3), 3);
        });
        edges.add("Throws `IllegalArgumentException` if amplitude or samples is out of range", check -> {
            PitchTracker x = new PitchTracker();
            check.refusesArgument("both wrong", () -> x.feedNoise(1, 101, 401));
            check.refusesArgument("both wrong and low", () -> x.feedNoise(1, -1, 0));
            check.same("samples()", x.samples(), 0);
        });
        edges.add("Throws `IllegalStateException` if more than 1024 would be fed",
                check -> fillsUp(check, (x, samples) -> x.feedNoise(1, 0, samples), 0));
    }

    /** The noise in long arithmetic, which does not go round by itself. */
    private static void noiseIs(Check check, int seed, int amplitude, int samples) {
        PitchTracker x = new PitchTracker();
        x.feedNoise(seed, amplitude, samples);
        long z = seed & 0xffffffffL;
        for (int k = 0; k < samples; k++) {
            z = (z * 1103515245L + 12345L) % 4294967296L;
            check.same("sample " + k + " from " + seed + " at " + amplitude, x.sample(k),
                    z / 65536 % (2 * amplitude + 1) - amplitude);
        }
    }

    private static void addClear(Edges edges) {
        edges.in("Promise 5");
        edges.add("Drops all sound; settings stay.", check -> {
            PitchTracker x = Sounds.silence(1024);
            x.setThreshold(50);
            x.setCosts(299, 9, 199);
            x.setTemperament(2, 3960);
            check.same("trackCost() ahead", x.trackCost(), 29 * 299);
            x.clear();
            check.same("samples()", x.samples(), 0);
            check.same("frames()", x.frames(), 0);
            check.same("trackCost()", x.trackCost(), 0);
            check.same("notes()", x.notes(), 0);
            refusesAllIndices(check, x);
            refill(x);
            PitchTracker twin = new PitchTracker();
            twin.setThreshold(50);
            twin.setCosts(299, 9, 199);
            twin.setTemperament(2, 3960);
            refill(twin);
            check.same("a sound after clear()", Sounds.told(x), Sounds.told(twin));
            check.same("the threshold", x.setThreshold(1), 50);
            clearedSoundIsNotTold(check);
        });
        edges.add("Returns how many samples there were.", check -> {
            PitchTracker x = Sounds.silence(1024);
            check.same("clear() of a full one", x.clear(), 1024);
            check.same("clear() of an empty one", x.clear(), 0);
            x.feed(1);
            check.same("clear() of one sample", x.clear(), 1);
            check.same("clear() of a new one", new PitchTracker().clear(), 0);
        });
    }

    /** Nothing is asked between the two sounds, which have as many samples. */
    private static void clearedSoundIsNotTold(Check check) {
        PitchTracker x = Sounds.mixed();
        x.trackCost();
        x.clear();
        refill(x);
        PitchTracker twin = new PitchTracker();
        refill(twin);
        check.same("difference(28, 9) after clear()", x.difference(28, 9), twin.difference(28, 9));
        check.same("the next sound after clear()", Sounds.told(x), Sounds.told(twin));
    }

    private static void refill(PitchTracker x) {
        x.feedWave(1, 20, 60, 300);
        x.feedWave(1, 45, 60, 300);
        x.feedNoise(5, 60, 200);
        x.feedWave(2, 7, 90, 224);
    }

    private static void addSamplesAndFrames(Edges edges) {
        edges.in("Promise 9");
        edges.add("Returns how many samples were fed.", check -> {
            check.same("none", new PitchTracker().samples(), 0);
            check.same("one", Sounds.silence(1).samples(), 1);
            PitchTracker full = Sounds.silence(1024);
            check.same("the most", full.samples(), 1024);
            check.refusesState("one more", () -> full.feed(0));
            check.same("the most, and one refused", full.samples(), 1024);
        });
        edges.in("Promise 10");
        edges.add("- `k`: from 0", check -> {
            PitchTracker x = Sounds.peak(128, 0, 9);
            check.same("sample(0)", x.sample(0), 9);
            check.refusesIndex("sample(-1)", () -> x.sample(-1));
            check.refusesIndex("sample of the lowest number", () -> x.sample(Integer.MIN_VALUE));
        });
        edges.add("Throws `IndexOutOfBoundsException` if there is no such sample", check -> {
            PitchTracker x = Sounds.peak(128, 127, 9);
            check.same("sample(127)", x.sample(127), 9);
            check.refusesIndex("sample(128)", () -> x.sample(128));
            check.refusesIndex("sample(1023) of 128", () -> x.sample(1023));
            check.refusesIndex("sample of the highest number", () -> x.sample(Integer.MAX_VALUE));
            x.clear();
            check.refusesIndex("sample(127) after clear()", () -> x.sample(127));
            PitchTracker full = Sounds.silence(1024);
            check.same("sample(1023)", full.sample(1023), 0);
            check.refusesIndex("sample(1024)", () -> full.sample(1024));
        });
        edges.in("Promise 11");
        edges.add("Returns how many frames there are.", check -> {
            int[][] due = {{0, 0}, {127, 0}, {128, 1}, {159, 1}, {160, 2}, {1023, 28}, {1024, 29}};
            for (int[] d : due) {
                PitchTracker x = Sounds.silence(d[0]);
                check.same("frames() with " + d[0] + " fed", x.frames(), d[1]);
                x.clear();
                check.same("frames() after clear()", x.frames(), 0);
            }
        });
    }
}
