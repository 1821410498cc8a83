/** Promises 18 to 23: the track, the periods, their names and octaves, the onsets. */
public final class TrackTest {
    private static final Check CHECK = new Check("TrackTest");

    public static void main(String[] args) {
        trackCost();
        lag();
        tiesTakeTheLowestLastLag();
        growingSound();
        period();
        nameAndOctave();
        tiesTakeTheLowestName();
        unvoiced();
        onsetLevel();
        onsetNeedsMoreThanTwice();
        wrongFrames();
        CHECK.close();
    }

    private static PitchTracker square(int period, int samples) {
        PitchTracker x = new PitchTracker();
        x.feedWave(2, period, 50, samples);
        return x;
    }

    /** The lag is 2 for the frames 0 to 4, and 4 for the frames 5 to 8. */
    private static PitchTracker twoSquares() {
        PitchTracker x = square(2, 192);
        x.feedWave(2, 4, 50, 192);
        return x;
    }

    private static void trackCost() {
        PitchTracker none = new PitchTracker();
        CHECK.same("trackCost() without sound", none.trackCost(), 0);
        none.feedWave(2, 2, 50, 127);
        CHECK.same("trackCost() without frames", none.trackCost(), 0);
        none.feed(0);
        CHECK.isTrue("a frame's cost is told once it is whole", none.lag(0) == 2);
        CHECK.same("trackCost() of a clean tone", square(2, 400).trackCost(), 0);

        PitchTracker x = twoSquares();
        int own = 0;
        for (int frame = 0; frame < x.frames(); frame++) {
            own += x.meanDifference(frame, x.lag(frame));
        }
        CHECK.same("trackCost() of two tones", x.trackCost(), own + 2 * 10);
        x.setCosts(300, 11, 200);
        CHECK.same("trackCost() at 11 for a jump", x.trackCost(), own + 2 * 11);
        changesAreCounted();
    }

    /** A tone, then silence: three frames can only be unvoiced. */
    private static void changesAreCounted() {
        PitchTracker x = square(2, 128);
        x.feedWave(2, 2, 0, 192);
        CHECK.same("candidates(4) in silence", x.candidates(4), 0);
        x.setCosts(100, 0, 7);
        int own = 0;
        int changes = 0;
        for (int frame = 0; frame < x.frames(); frame++) {
            int lag = x.lag(frame);
            own += lag == 0 ? 100 : x.meanDifference(frame, lag);
            changes += frame > 0 && (lag == 0) != (x.lag(frame - 1) == 0) ? 1 : 0;
        }
        CHECK.same("changes between voiced and unvoiced", changes, 1);
        CHECK.same("trackCost() with a change", x.trackCost(), own + 7);
    }

    private static void lag() {
        PitchTracker x = twoSquares();
        CHECK.same("frames() of two tones", x.frames(), 9);
        for (int frame = 0; frame < 9; frame++) {
            CHECK.same("lag(" + frame + ") of two tones", x.lag(frame), frame < 5 ? 2 : 4);
        }
        PitchTracker saw = new PitchTracker();
        saw.feedWave(0, 20, 100, 128);
        CHECK.same("lag(0) of a saw of 20", saw.lag(0), 20);
    }

    /** With all costs 0 many paths cost 0, and "unvoiced" has the lowest lag. */
    private static void tiesTakeTheLowestLastLag() {
        PitchTracker x = twoSquares();
        x.setCosts(0, 0, 0);
        for (int frame = 0; frame < x.frames(); frame++) {
            CHECK.same("lag(" + frame + ") without costs", x.lag(frame), 0);
        }
        x.setCosts(1, 0, 0);
        CHECK.same("lag(8) at 1 for unvoiced", x.lag(8), 4);
        PitchTracker multiples = square(2, 400);
        multiples.setCosts(1000, 0, 1000);
        for (int frame = 0; frame < multiples.frames(); frame++) {
            CHECK.same("lag(" + frame + ") of equal multiples", multiples.lag(frame), 2);
        }
    }

    /** What is told between two feeds counts the frames of that time only. */
    private static void growingSound() {
        PitchTracker x = square(2, 128);
        CHECK.same("trackCost() of one frame", x.trackCost(), 0);
        CHECK.same("notes() of one frame", x.notes(), 1);
        x.feedWave(2, 2, 0, 31);
        CHECK.same("frames() with 159", x.frames(), 1);
        CHECK.same("trackCost() with 159", x.trackCost(), 0);
        x.feed(0);
        CHECK.same("frames() with 160", x.frames(), 2);
        PitchTracker atOnce = square(2, 128);
        atOnce.feedWave(2, 2, 0, 32);
        CHECK.same("trackCost() with 160", x.trackCost(), atOnce.trackCost());
        CHECK.same("lag(1) with 160", x.lag(1), atOnce.lag(1));
        x.feedWave(2, 2, 0, 400);
        atOnce.feedWave(2, 2, 0, 400);
        CHECK.same("trackCost() with 560", x.trackCost(), atOnce.trackCost());
        for (int frame = 0; frame < x.frames(); frame++) {
            CHECK.same("lag(" + frame + ") with 560", x.lag(frame), atOnce.lag(frame));
        }
    }

    private static void period() {
        CHECK.same("period(0) of a square of 2", square(2, 128).period(0), 128);
        CHECK.same("period(0) of a square of 4", square(4, 128).period(0), 256);
        for (int shape = 0; shape <= 2; shape++) {
            for (int period = 2; period <= 63; period++) {
                PitchTracker x = new PitchTracker();
                x.feedWave(shape, period, 73, 100);
                x.feedNoise(period, 40, 156);
                x.setThreshold(100);
                for (int frame = 0; frame < x.frames(); frame++) {
                    CHECK.same("period(" + frame + ") for " + shape + " and " + period,
                            x.period(frame), duePeriod(x, frame));
                }
            }
        }
        shiftStaysInBounds();
    }

    private static int duePeriod(PitchTracker x, int frame) {
        int lag = x.lag(frame);
        if (lag == 0) {
            return 0;
        }
        long a = x.difference(frame, lag - 1);
        long b = x.difference(frame, lag);
        long c = x.difference(frame, lag + 1);
        if (a - 2 * b + c <= 0) {
            return 64 * lag;
        }
        long size = Math.abs(32 * (a - c)) / (a - 2 * b + c);
        long shift = a < c ? -Math.min(size, 32) : Math.min(size, 32);
        return (int) (64 * lag + shift);
    }

    /**
     * The samples 0, 2, -1 and then 0 have the differences 14, 6, 5: the shift at 2 is
     * 32 * 9 / (14 - 12 + 5), 41 and so 32 at the most.
     */
    private static void shiftStaysInBounds() {
        PitchTracker x = new PitchTracker();
        x.feed(0);
        x.feed(2);
        x.feed(-1);
        x.feedWave(2, 2, 0, 125);
        x.setThreshold(100);
        x.setCosts(1000, 10, 200);
        CHECK.same("lag(0) of two peaks", x.lag(0), 2);
        CHECK.same("period(0) of two peaks", x.period(0), 160);
    }

    private static void nameAndOctave() {
        PitchTracker x = square(4, 128);
        // The period is 256, the base 4096: the octave 4, the name 0.
        CHECK.same("octave(0) of a square of 4", x.octave(0), 4);
        CHECK.same("name(0) of a square of 4", x.name(0), 0);
        x.setTemperament(0, 342);
        // 342 * 7492 / 10000 is 256.2.
        CHECK.same("name(0) at the base 342", x.name(0), 5);
        CHECK.same("octave(0) at the base 342", x.octave(0), 0);
        x.setTemperament(0, 64);
        CHECK.same("name(0) at the lowest base", x.name(0), 0);
        CHECK.same("octave(0) at the lowest base", x.octave(0), 0);
        PitchTracker high = square(2, 128);
        high.setTemperament(0, 8192);
        // 8192 * 9439 / 640000 is 120.8, nearest to 128 is 8192 / 64.
        CHECK.same("name(0) of the highest at the highest base", high.name(0), 0);
        CHECK.same("octave(0) of the highest at the highest base", high.octave(0), 6);
    }

    /** A triangle of 31 has the period 1984, halfway between 2560 * 0.8 and 2560 * 0.75. */
    private static void tiesTakeTheLowestName() {
        int[][] due = {{31, 2560, 4}, {62, 5120, 4}, {49, 5120, 8}};
        for (int[] d : due) {
            PitchTracker x = new PitchTracker();
            x.feedWave(1, d[0], 100, 128);
            x.setTemperament(1, d[1]);
            CHECK.same("period(0) of a triangle of " + d[0], x.period(0), 64 * d[0]);
            CHECK.same("name(0) of a triangle of " + d[0], x.name(0), d[2]);
            CHECK.same("octave(0) of a triangle of " + d[0], x.octave(0), 0);
        }
    }

    private static void unvoiced() {
        PitchTracker x = new PitchTracker();
        x.feedWave(2, 2, 0, 128);
        CHECK.same("lag(0) of silence", x.lag(0), 0);
        CHECK.same("period(0) of silence", x.period(0), 0);
        CHECK.same("name(0) of silence", x.name(0), -1);
        CHECK.same("octave(0) of silence", x.octave(0), -1);
        CHECK.same("isOnset(0) of silence", x.isOnset(0) ? 1 : 0, 0);
    }

    /** Ten samples of 8 have the energy 640; nine, and one of 7, have 625. */
    private static void onsetLevel() {
        PitchTracker x = new PitchTracker();
        x.feedWave(2, 64, 8, 10);
        x.feedWave(2, 64, 0, 150);
        CHECK.same("energy(0, 0)", x.energy(0, 0), 640);
        CHECK.isTrue("isOnset(0) at 640", x.isOnset(0));
        PitchTracker less = new PitchTracker();
        less.feedWave(2, 64, 8, 9);
        less.feed(7);
        less.feed(3);
        less.feed(2);
        less.feed(1);
        less.feedWave(2, 64, 0, 150);
        CHECK.same("energy(0, 0)", less.energy(0, 0), 639);
        CHECK.isTrue("no isOnset(0) at 639", !less.isOnset(0));

        PitchTracker later = new PitchTracker();
        later.feedWave(2, 64, 0, 64);
        later.feedWave(2, 64, 8, 10);
        later.feedWave(2, 64, 0, 118);
        CHECK.same("energy(1, 0)", later.energy(1, 0), 640);
        CHECK.isTrue("isOnset(1) at 640 behind silence", later.isOnset(1));
        CHECK.isTrue("no isOnset(2) at 640 behind 640", !later.isOnset(2));
        PitchTracker laterLess = new PitchTracker();
        laterLess.feedWave(2, 64, 0, 64);
        laterLess.feedWave(2, 64, 8, 9);
        laterLess.feed(7);
        laterLess.feedWave(2, 64, 0, 118);
        CHECK.isTrue("no isOnset(1) at 625 behind silence", !laterLess.isOnset(1));
    }

    /** The frame 0 holds ten samples of 8, the frame 1 twenty, or one more. */
    private static void onsetNeedsMoreThanTwice() {
        PitchTracker twice = new PitchTracker();
        twice.feedWave(2, 64, 0, 32);
        twice.feedWave(2, 64, 8, 10);
        twice.feedWave(2, 64, 0, 22);
        twice.feedWave(2, 64, 8, 10);
        twice.feedWave(2, 64, 0, 100);
        CHECK.same("energy(1, 0)", twice.energy(1, 0), 2 * twice.energy(0, 0));
        CHECK.isTrue("no isOnset(1) at just twice", !twice.isOnset(1));
        PitchTracker more = new PitchTracker();
        more.feedWave(2, 64, 0, 32);
        more.feedWave(2, 64, 8, 10);
        more.feedWave(2, 64, 0, 22);
        more.feedWave(2, 64, 8, 10);
        more.feed(1);
        more.feedWave(2, 64, 0, 99);
        CHECK.same("energy(1, 0)", more.energy(1, 0), 2 * more.energy(0, 0) + 1);
        CHECK.isTrue("isOnset(1) at more than twice", more.isOnset(1));
    }

    private static void wrongFrames() {
        PitchTracker empty = new PitchTracker();
        PitchTracker two = square(2, 160);
        PitchTracker most = square(2, 400);
        most.feedWave(2, 2, 50, 400);
        most.feedWave(2, 2, 50, 224);
        refusesFrames(empty, 0, -1, 1);
        refusesFrames(two, 2, -1, 28, Integer.MAX_VALUE, Integer.MIN_VALUE);
        refusesFrames(most, 29, -1, Integer.MAX_VALUE, Integer.MIN_VALUE);
        CHECK.same("lag(28) of the longest sound", most.lag(28), 2);
    }

    private static void refusesFrames(PitchTracker x, int... frames) {
        for (int frame : frames) {
            CHECK.refusesIndex("lag(" + frame + ")", () -> x.lag(frame));
            CHECK.refusesIndex("period(" + frame + ")", () -> x.period(frame));
            CHECK.refusesIndex("name(" + frame + ")", () -> x.name(frame));
            CHECK.refusesIndex("octave(" + frame + ")", () -> x.octave(frame));
            CHECK.refusesIndex("isOnset(" + frame + ")", () -> x.isOnset(frame));
        }
    }
}
