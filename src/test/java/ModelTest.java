import java.util.Random;

/** Runs of calls drawn by fixed seeds: the program answers each as the plain tracker does. */
public final class ModelTest {
    private static final Check CHECK = new Check("ModelTest");
    private static final int MOST_CALLS = 512;
    private static final int[] ODD_NUMBERS = {
        Integer.MIN_VALUE, Integer.MIN_VALUE + 1, -1000000, -1, 0, 1, 1000000,
        Integer.MAX_VALUE - 1, Integer.MAX_VALUE,
    };

    public static void main(String[] args) {
        for (int seed = 0; seed < 300; seed++) {
            new Run(seed).play();
        }
        for (int seed = 0; seed < 200; seed++) {
            compareWithAllPaths(new Random(10000 + seed));
        }
        CHECK.close();
    }

    private static void compareWithAllPaths(Random random) {
        PitchTracker x = new PitchTracker();
        PlainTracker plain = new PlainTracker();
        int threshold = 1 + random.nextInt(100);
        x.setThreshold(threshold);
        plain.setThreshold(threshold);
        int[] costs = {random.nextInt(4) * 20, random.nextInt(3), random.nextInt(3) * 10};
        x.setCosts(costs[0], costs[1], costs[2]);
        plain.setCosts(costs[0], costs[1], costs[2]);
        for (int part = 0; part < 4; part++) {
            int shape = random.nextInt(3);
            int period = 2 + random.nextInt(14);
            int amplitude = random.nextInt(4);
            x.feedWave(shape, period, amplitude, 50);
            plain.feedWave(shape, period, amplitude, 50);
        }
        int[] due = plain.trackByTryingAll();
        for (int frame = 0; frame < x.frames(); frame++) {
            CHECK.same("lag(" + frame + ") by all paths", x.lag(frame), due[frame]);
        }
        CHECK.same("trackCost() by all paths", x.trackCost(), due[x.frames()]);
    }

    /** One object's calls, each told to the program and to the plain tracker. */
    private static final class Run {
        private final int seed;
        private final Random random;
        private final PitchTracker x = new PitchTracker();
        private final PlainTracker plain = new PlainTracker();
        private int calls;

        Run(int seed) {
            this.seed = seed;
            this.random = new Random(seed);
        }

        void play() {
            int settings = random.nextInt(4);
            for (int step = 0; step < 400 && calls < MOST_CALLS; step++) {
                int kind = random.nextInt(100);
                if (kind < 18) {
                    feedSome();
                } else if (kind < 20) {
                    compare("clear()", x::clear, plain::clear);
                } else if (kind < 20 + 2 * settings) {
                    setSome();
                } else {
                    tellSome();
                }
            }
        }

        private void compare(String call, Check.Call got, Check.Call due) {
            if (calls >= MOST_CALLS) {
                return;
            }
            calls++;
            CHECK.same("run " + seed + ", call " + calls + ": " + call, Check.told(got), Check.told(due));
        }

        private void compareActs(String call, Check.Act got, Check.Act due) {
            if (calls >= MOST_CALLS) {
                return;
            }
            calls++;
            CHECK.same("run " + seed + ", call " + calls + ": " + call,
                    Check.thrownBy(got), Check.thrownBy(due));
        }

        /** A number of the range or, now and then, one just beside it or far away. */
        private int number(int lowest, int highest) {
            int kind = random.nextInt(60);
            if (kind == 0) {
                return ODD_NUMBERS[random.nextInt(ODD_NUMBERS.length)];
            }
            if (kind == 1) {
                return lowest - 1;
            }
            if (kind == 2) {
                return highest + 1;
            }
            if (kind < 6) {
                return kind % 2 == 0 ? lowest : highest;
            }
            return lowest + random.nextInt(Math.max(1, highest - lowest + 1));
        }

        private void feedSome() {
            int samples = random.nextInt(3) == 0 ? number(1, 400) : number(1, 90);
            int amplitude = random.nextInt(3) == 0 ? number(0, 4) : number(0, 100);
            int kind = random.nextInt(10);
            if (kind < 2) {
                int value = number(-100, 100);
                compare("feed(" + value + ")", () -> x.feed(value), () -> plain.feed(value));
            } else if (kind < 8) {
                int shape = number(0, 2);
                int period = random.nextBoolean() ? number(2, 64) : number(2, 12);
                compare("feedWave(" + shape + ", " + period + ", " + amplitude + ", " + samples + ")",
                        () -> x.feedWave(shape, period, amplitude, samples),
                        () -> plain.feedWave(shape, period, amplitude, samples));
            } else {
                int start = random.nextInt();
                compare("feedNoise(" + start + ", " + amplitude + ", " + samples + ")",
                        () -> x.feedNoise(start, amplitude, samples),
                        () -> plain.feedNoise(start, amplitude, samples));
            }
        }

        private void setSome() {
            int kind = random.nextInt(3);
            if (kind == 0) {
                int percent = number(1, 100);
                compare("setThreshold(" + percent + ")",
                        () -> x.setThreshold(percent), () -> plain.setThreshold(percent));
            } else if (kind == 1) {
                int unvoiced = random.nextBoolean() ? number(0, 1000) : number(0, 100);
                int jump = random.nextBoolean() ? number(0, 100) : number(0, 2);
                int change = random.nextBoolean() ? number(0, 1000) : number(0, 100);
                compareActs("setCosts(" + unvoiced + ", " + jump + ", " + change + ")",
                        () -> x.setCosts(unvoiced, jump, change),
                        () -> plain.setCosts(unvoiced, jump, change));
            } else {
                int temperament = number(0, 2);
                int base = number(64, 8192);
                compareActs("setTemperament(" + temperament + ", " + base + ")",
                        () -> x.setTemperament(temperament, base),
                        () -> plain.setTemperament(temperament, base));
            }
        }

        private void tellSome() {
            int kind = random.nextInt(10);
            if (kind < 2) {
                tellWhole();
            } else if (kind < 4) {
                tellOfLag();
            } else if (kind < 8) {
                tellOfFrame();
            } else {
                tellOfNote();
            }
        }

        private void tellWhole() {
            compare("samples()", x::samples, plain::samples);
            compare("frames()", x::frames, plain::frames);
            compare("trackCost()", x::trackCost, plain::trackCost);
            compare("notes()", x::notes, plain::notes);
            int k = number(0, plain.samples() - 1);
            compare("sample(" + k + ")", () -> x.sample(k), () -> plain.sample(k));
        }

        private void tellOfLag() {
            int frame = number(0, plain.frames() - 1);
            int lag = number(1, 64);
            String of = "(" + frame + ", " + lag + ")";
            compare("energy" + of, () -> x.energy(frame, lag), () -> plain.energy(frame, lag));
            compare("autocorrelation" + of,
                    () -> x.autocorrelation(frame, lag), () -> plain.autocorrelation(frame, lag));
            compare("difference" + of,
                    () -> x.difference(frame, lag), () -> plain.difference(frame, lag));
            compare("meanDifference" + of,
                    () -> x.meanDifference(frame, lag), () -> plain.meanDifference(frame, lag));
        }

        private void tellOfFrame() {
            int frame = number(0, plain.frames() - 1);
            int candidate = number(0, 7);
            String of = "(" + frame + ")";
            compare("candidates" + of, () -> x.candidates(frame), () -> plain.candidates(frame));
            compare("candidateLag(" + frame + ", " + candidate + ")",
                    () -> x.candidateLag(frame, candidate), () -> plain.candidateLag(frame, candidate));
            compare("lag" + of, () -> x.lag(frame), () -> plain.lag(frame));
            compare("period" + of, () -> x.period(frame), () -> plain.period(frame));
            compare("name" + of, () -> x.name(frame), () -> plain.name(frame));
            compare("octave" + of, () -> x.octave(frame), () -> plain.octave(frame));
            compare("isOnset" + of,
                    () -> x.isOnset(frame) ? 1 : 0, () -> plain.isOnset(frame) ? 1 : 0);
            compare("noteOf" + of, () -> x.noteOf(frame), () -> plain.noteOf(frame));
        }

        private void tellOfNote() {
            int note = number(0, plain.notes() - 1);
            compare("noteStart(" + note + ")", () -> x.noteStart(note), () -> plain.noteStart(note));
            compare("noteLength(" + note + ")", () -> x.noteLength(note), () -> plain.noteLength(note));
        }
    }
}
