/** "Terms" from the path to the onsets, and promises 18 to 23. */
final class TrackEdges {
    private TrackEdges() { }

    static void addTo(Edges edges) {
        edges.in("Terms");
        addPathTerms(edges);
        addPeriodTerms(edges);
        addNameTerms(edges);
        addOnsetTerms(edges);
        edges.in("Promise 18");
        edges.add("Returns the cost of the track; 0 without frames.", TrackEdges::costWithoutFrames);
        edges.in("Promise 19");
        FramesEdges.addFrame(edges, (x, frame) -> x.lag(frame));
        edges.add("Returns the lag; 0 if the frame is unvoiced.", check -> {
            check.same("lag(0) of a tone", Sounds.square(63, 128).lag(0), 63);
            check.same("lag(0) of silence", Sounds.silence(128).lag(0), 0);
            check.same("lag(6) behind a tone", toneThenSilence().lag(6), 0);
        });
        edges.in("Promise 20");
        FramesEdges.addFrame(edges, (x, frame) -> x.period(frame));
        edges.add("Returns the period in 64ths of a sample; 0 if the frame is unvoiced.", check -> {
            check.same("period(0) of a tone", Sounds.square(2, 128).period(0), 128);
            check.same("period(0) of silence", Sounds.silence(128).period(0), 0);
            check.same("period(6) behind a tone", toneThenSilence().period(6), 0);
            check.same("period(0) of a candidate not taken", notTaken().period(0), 0);
        });
        edges.in("Promise 21");
        FramesEdges.addFrame(edges, (x, frame) -> x.name(frame));
        edges.add("Returns 0 to 11; -1 if the frame is unvoiced.", check -> {
            PitchTracker x = Sounds.square(2, 128);
            check.same("name(0) at the base 4096", x.name(0), 0);
            // 242 * 0.5297 is 128.2, and 242 / 2 is 121.
            x.setTemperament(0, 242);
            check.same("name(0) at the base 242", x.name(0), 11);
            check.same("name(0) of silence", Sounds.silence(128).name(0), -1);
            check.same("name(6) behind a tone", toneThenSilence().name(6), -1);
            check.same("name(0) of a candidate not taken", notTaken().name(0), -1);
        });
        edges.in("Promise 22");
        FramesEdges.addFrame(edges, (x, frame) -> x.octave(frame));
        edges.add("Returns 0 to 6; -1 if the frame is unvoiced.", check -> {
            PitchTracker x = Sounds.square(2, 128);
            x.setTemperament(0, 128);
            check.same("octave(0) at the base 128", x.octave(0), 0);
            x.setTemperament(0, 8192);
            check.same("octave(0) at the base 8192", x.octave(0), 6);
            check.same("octave(0) of silence", Sounds.silence(128).octave(0), -1);
            check.same("octave(6) behind a tone", toneThenSilence().octave(6), -1);
            check.same("octave(0) of a candidate not taken", notTaken().octave(0), -1);
        });
        edges.in("Promise 23");
        FramesEdges.addFrame(edges, (x, frame) -> x.isOnset(frame));
    }

    /** Seven frames; the frames 4 to 6 have no candidate. */
    private static PitchTracker toneThenSilence() {
        PitchTracker x = Sounds.square(2, 128);
        Sounds.addSquare(x, 2, 0, 192);
        return x;
    }

    /** Candidates of the cost 0, and "unvoiced" of the same cost. */
    private static PitchTracker notTaken() {
        PitchTracker x = Sounds.square(2, 128);
        x.setCosts(0, 0, 0);
        return x;
    }

    private static void lagsAre(Check check, String sound, PitchTracker x, int... due) {
        check.same("frames() of " + sound, x.frames(), due.length);
        for (int frame = 0; frame < due.length; frame++) {
            check.same("lag(" + frame + ") of " + sound, x.lag(frame), due[frame]);
        }
    }

    private static void costWithoutFrames(Check check) {
        PitchTracker x = new PitchTracker();
        check.same("trackCost() without sound", x.trackCost(), 0);
        x.feedWave(2, 2, 0, 127);
        check.same("trackCost() with 127 fed", x.trackCost(), 0);
        x.feed(0);
        check.same("trackCost() with 128 fed", x.trackCost(), 300);
        x.clear();
        check.same("trackCost() after clear()", x.trackCost(), 0);
        PitchTracker most = Sounds.silence(1024);
        most.setCosts(1000, 100, 1000);
        check.same("trackCost() of the longest silence", most.trackCost(), 29000);
    }

    private static void addPathTerms(Edges edges) {
        edges.add("if both are voiced, the difference of their lags, without its sign, times the cost of a jump",
                check -> {
            PitchTracker down = Sounds.waves(new int[] {1, 7, 50, 160}, new int[] {1, 6, 50, 160});
            down.setCosts(1000, 0, 1000);
            lagsAre(check, "a fall", down, 7, 7, 7, 7, 6, 6, 6);
            check.same("trackCost() of a fall at 0", down.trackCost(), 253);
            down.setCosts(1000, 10, 1000);
            lagsAre(check, "a dear fall", down, 7, 7, 7, 7, 6, 6, 6);
            check.same("trackCost() of a fall at 10", down.trackCost(), 263);
            PitchTracker up = Sounds.waves(new int[] {1, 2, 50, 160}, new int[] {1, 21, 50, 160});
            up.setCosts(1000, 100, 1000);
            lagsAre(check, "a rise", up, 2, 2, 2, 2, 2, 21, 21);
            check.same("trackCost() of a rise of 19 at 100", up.trackCost(), 133 + 1900);
        });
        edges.add("if just one of them is, the cost of a change", check -> {
            PitchTracker begins = Sounds.waves(new int[] {2, 2, 0, 192}, new int[] {2, 2, 50, 192});
            costRisesBy(check, "silence and a tone", begins, 1);
            PitchTracker ends = toneThenSilence();
            costRisesBy(check, "a tone and silence", ends, 1);
            PitchTracker both = Sounds.waves(new int[] {2, 2, 0, 160}, new int[] {2, 2, 50, 160},
                    new int[] {2, 2, 0, 192});
            costRisesBy(check, "a tone between silence", both, 2);
        });
        edges.add("if none is, nothing", check -> {
            PitchTracker x = Sounds.silence(192);
            x.setCosts(7, 100, 1000);
            check.same("trackCost() of three unvoiced frames", x.trackCost(), 21);
        });
        addTies(edges);
        edges.add("All of this is told for the frames that there are at the time.", check -> {
            PitchTracker x = Sounds.square(2, 128);
            check.same("lag(0) of one frame", x.lag(0), 2);
            check.same("trackCost() of one frame", x.trackCost(), 0);
            x.feedWave(2, 5, 50, 31);
            check.same("lag(0) with 31 more", x.lag(0), 2);
            check.same("trackCost() with 31 more", x.trackCost(), 0);
            x.clear();
            x.feedWave(2, 2, 50, 128);
            check.same("lag(0) of the same again", x.lag(0), 2);
            x.feedWave(2, 5, 50, 160);
            check.same("lag(0) of six frames", x.lag(0), 4);
            check.same("trackCost() of six frames", x.trackCost(), 249);
        });
    }

    private static void costRisesBy(Check check, String sound, PitchTracker x, int changes) {
        x.setCosts(100, 0, 0);
        int free = x.trackCost();
        x.setCosts(100, 0, 7);
        check.same("trackCost() of " + sound, x.trackCost(), free + 7 * changes);
    }

    private static void addTies(Edges edges) {
        edges.add("of several such paths it is the one whose lag in the last frame is lowest", check -> {
            // The lags 10 5 5, 10 10 0 and 10 10 5 cost 386, and no other path costs less.
            PitchTracker x = Sounds.waves(new int[] {0, 10, 50, 32}, new int[] {0, 5, 30, 96},
                    new int[] {2, 17, 30, 64});
            x.setCosts(150, 1, 50);
            lagsAre(check, "three cheapest paths", x, 10, 10, 0);
            check.same("trackCost() of them", x.trackCost(), 386);
            PitchTracker multiples = Sounds.square(2, 128);
            check.same("lag(0) of the multiples of 2", multiples.lag(0), 2);
            multiples.setCosts(0, 10, 200);
            check.same("lag(0) with \"unvoiced\" as cheap", multiples.lag(0), 0);
        });
        edges.add("of these the one whose lag in the frame ahead of that is lowest", check -> {
            // The lags 17 17 17 17 0 and 34 34 34 0 0 cost 511.
            PitchTracker x = Sounds.waves(new int[] {2, 15, 30, 32}, new int[] {2, 17, 50, 128},
                    new int[] {1, 16, 10, 96});
            x.setCosts(150, 10, 50);
            lagsAre(check, "two cheapest paths", x, 34, 34, 34, 0, 0);
            check.same("trackCost() of them", x.trackCost(), 511);
        });
        edges.add("and so on", check -> {
            // The lags 0 0 63 0, 0 11 0 0 and 0 22 0 0 cost 450.
            PitchTracker x = Sounds.waves(new int[] {2, 12, 30, 32}, new int[] {2, 11, 40, 96},
                    new int[] {2, 11, 40, 96});
            x.setCosts(150, 10, 0);
            lagsAre(check, "three other cheapest paths", x, 0, 11, 0, 0);
            check.same("trackCost() of them", x.trackCost(), 450);
            PitchTracker most = Sounds.square(2, 1024);
            most.setCosts(1000, 0, 1000);
            lagsAre(check, "eight multiples in each frame", most, 2, 2, 2, 2, 2, 2, 2, 2, 2, 2, 2, 2, 2, 2, 2, 2,
                    2, 2, 2, 2, 2, 2, 2, 2, 2, 2, 2, 2, 2);
        });
    }

    private static void addPeriodTerms(Edges edges) {
        edges.add("with a, b, c the differences at t - 1, t and t + 1, the shift is the product 32 * (a - c), "
                + "divided by a - 2 * b + c, in one division rounded towards 0", check -> {
            // -160 / 27 is -5.9, 640 / 26 is 24.6, -96 / 73 is -1.3, and 1280 / 40 is 32.
            periodIs(check, new int[] {5, 5, 2, 6}, 2, 61, 50, 66, -5);
            periodIs(check, new int[] {-2, 1, -3}, 2, 34, 11, 14, 24);
            periodIs(check, new int[] {-5, -3, -4, 2, -3}, 2, 75, 40, 78, -1);
            periodIs(check, new int[] {-3, -2, 5, 0, 4}, 5, 94, 54, 54, 32);
        });
        edges.add("but not below -32 nor above 32", check -> {
            // 1216 / 36 is 33.8, and 288 / 7 is 41.1.
            periodIs(check, new int[] {0, -6, 5, 1}, 3, 100, 63, 62, 32);
            periodIs(check, new int[] {0, 2, -1}, 2, 14, 6, 5, 32);
        });
        edges.add("it is 0 if a - 2 * b + c is not above 0", TrackEdges::curveIsAlwaysAboveNought);
    }

    private static void periodIs(Check check, int[] samples, int lag, int a, int b, int c, int shift) {
        PitchTracker x = Sounds.startingWith(samples);
        x.setThreshold(100);
        x.setCosts(1000, 10, 200);
        check.same("lag(0)", x.lag(0), lag);
        check.same("the difference ahead", x.difference(0, lag - 1), a);
        check.same("the difference", x.difference(0, lag), b);
        check.same("the difference behind", x.difference(0, lag + 1), c);
        check.same("period(0) with " + a + ", " + b + ", " + c, x.period(0), 64 * lag + shift);
    }

    /**
     * No call can show this case, nor a shift below -31: with m, the mean at a candidate t, below 1, m less
     * than the mean at t - 1 means a > b * (t - m) / (t - 1), so a - b is above b * (1 - m) / (t - 1); m not
     * greater than that at t + 1 means that b - c is at most b * (1 - m) / (t + 1 - m), which is less. So
     * a > b and a - 2 * b + c > 0. What is looked at here is that it is so for the candidates of many sounds.
     */
    private static void curveIsAlwaysAboveNought(Check check) {
        for (int seed = 1; seed <= 60; seed++) {
            PitchTracker x = new PitchTracker();
            x.feedNoise(seed, seed % 9 + 1, 40 + seed % 24);
            x.feedWave(seed % 3, seed % 12 + 2, seed % 7, 160 - x.samples());
            x.setThreshold(100);
            for (int frame = 0; frame < x.frames(); frame++) {
                for (int k = 0; k < x.candidates(frame); k++) {
                    int t = x.candidateLag(frame, k);
                    int a = x.difference(frame, t - 1);
                    int b = x.difference(frame, t);
                    int c = x.difference(frame, t + 1);
                    check.isTrue("a > b of the seed " + seed + " at " + t, a > b);
                    check.isTrue("a - 2 * b + c > 0 of the seed " + seed + " at " + t, a - 2 * b + c > 0);
                }
            }
        }
    }

    private static void addNameTerms(Edges edges) {
        edges.add("The pattern of the octave o, 0 to 6, and the name k is the period base * q[k] / "
                + "(10000 * 2 to the power of o), as a fraction, the base being a setting.", check -> {
            // Rounded or cut to whole numbers, another pattern would be as near.
            nameIs(check, Sounds.square(2, 128), 0, 1989, 4, 0);
            nameIs(check, Sounds.square(2, 128), 1, 186, 0, 7);
            nameIs(check, Sounds.square(2, 128), 2, 7979, 6, 0);
            nameIs(check, Sounds.square(2, 128), 2, 279, 1, 2);
        });
        edges.add("The name and the octave of a voiced frame are those of the pattern that is nearest to its "
                + "period", check -> {
            // The longest period lies above every pattern of the lowest base.
            nameIs(check, Sounds.square(63, 128), 0, 64, 0, 0);
            // 5297 * 64 / 640000, the least pattern, is below every period; 8192 * 0.7937 / 64 is 101.6.
            PitchTracker high = Sounds.startingWith(1, 3, 2, 3);
            high.setThreshold(100);
            high.setCosts(1000, 10, 200);
            check.same("period(0), a short one", high.period(0), 101);
            nameIs(check, high, 0, 8192, 6, 4);
            // Between the octaves 2 and 3: 1000 / 8 is 125, and 1000 * 0.5297 / 4 is 132.4.
            nameIs(check, Sounds.square(2, 128), 0, 1000, 3, 0);
            nameIs(check, Sounds.square(2, 128), 0, 990, 2, 11);
        });
        edges.add("of several the one with the lowest octave, then with the lowest name", TrackEdges::nearestTies);
    }

    private static void nameIs(Check check, PitchTracker x, int temperament, int base, int octave, int name) {
        x.setTemperament(temperament, base);
        check.same("octave(0) in " + temperament + " at " + base, x.octave(0), octave);
        check.same("name(0) in " + temperament + " at " + base, x.name(0), name);
    }

    /**
     * The period 1984 lies halfway between 2560 * 0.8 and 2560 * 0.75, and so on. Two octaves never tie
     * within the ranges: base * (q[11] + 5000) would have to be 20000 * 2^o times a period, at most 4064.
     */
    private static void nearestTies(Check check) {
        nameIs(check, Sounds.waves(new int[] {1, 31, 100, 128}), 1, 2560, 0, 4);
        nameIs(check, Sounds.waves(new int[] {1, 62, 100, 128}), 1, 5120, 0, 4);
        nameIs(check, Sounds.waves(new int[] {1, 49, 100, 128}), 1, 5120, 0, 8);
        nameIs(check, Sounds.waves(new int[] {1, 31, 100, 128}), 1, 5120, 1, 4);
        int[] lasts = {5297, 5333, 5267};
        for (int last : lasts) {
            for (int base = 64; base <= 8192; base++) {
                for (int octave = 0; octave < 6; octave++) {
                    long sum = (long) base * (last + 5000);
                    long step = 20000L << octave;
                    check.isTrue("no tie of octaves at " + base, sum % step != 0 || sum / step > 4064);
                }
            }
        }
    }

    private static void addOnsetTerms(Edges edges) {
        edges.add("A frame f from 1 on is an onset if its energy at 0 is at least 640", check -> {
            onsetIs(check, loudBehindSilence(8, 0), 1, 640, true);
            onsetIs(check, loudBehindSilence(7, 7), 1, 639, false);
        });
        edges.add("and more than twice that of the frame f - 1", check -> {
            onsetIs(check, loudBehindLoud(0), 1, 1280, false);
            onsetIs(check, loudBehindLoud(1), 1, 1281, true);
            onsetIs(check, Sounds.square(2, 160), 1, 160000, false);
        });
        edges.add("The frame 0 is an onset if its energy is at least 640.", check -> {
            onsetIs(check, Sounds.waves(new int[] {2, 64, 8, 10}, new int[] {2, 2, 0, 150}), 0, 640, true);
            PitchTracker less = Sounds.waves(new int[] {2, 64, 8, 9}, new int[] {2, 64, 7, 1},
                    new int[] {2, 64, 3, 1}, new int[] {2, 64, 2, 1}, new int[] {2, 64, 1, 1},
                    new int[] {2, 2, 0, 115});
            onsetIs(check, less, 0, 639, false);
            onsetIs(check, Sounds.silence(128), 0, 0, false);
            // Only the shift 0 counts: the second half of the frame is louder.
            PitchTracker late = Sounds.waves(new int[] {2, 2, 0, 64}, new int[] {2, 2, 90, 64});
            onsetIs(check, late, 0, 0, false);
        });
    }

    private static void onsetIs(Check check, PitchTracker x, int frame, int energy, boolean due) {
        check.same("energy(" + frame + ", 0)", x.energy(frame, 0), energy);
        check.isTrue("isOnset(" + frame + ") at " + energy + " is " + due, x.isOnset(frame) == due);
    }

    /** The frame 0 is silent; the frame 1 has ten samples of 8, or nine of 8, one of 7 and 14 more. */
    private static PitchTracker loudBehindSilence(int tenth, int more) {
        PitchTracker x = Sounds.silence(64);
        x.feedWave(2, 64, 8, 9);
        x.feed(tenth);
        for (int k = 0; k < 2 * more; k++) {
            x.feed(1);
        }
        Sounds.addSquare(x, 2, 0, 192 - x.samples());
        return x;
    }

    /** The frame 0 has the energy 640 in its second half; the frame 1 has that, and 640 and more behind it. */
    private static PitchTracker loudBehindLoud(int more) {
        PitchTracker x = Sounds.silence(32);
        x.feedWave(2, 64, 8, 10);
        Sounds.addSquare(x, 2, 0, 22);
        x.feedWave(2, 64, 8, 10);
        x.feed(more);
        Sounds.addSquare(x, 2, 0, 192 - x.samples());
        return x;
    }
}
