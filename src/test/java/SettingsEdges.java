/** Promises 6 to 8. */
final class SettingsEdges {
    private SettingsEdges() { }

    static void addTo(Edges edges) {
        addThreshold(edges);
        addCosts(edges);
        addTemperament(edges);
    }

    private static void addThreshold(Edges edges) {
        edges.in("Promise 6");
        edges.addRange("- `percent`: 1 to 100", 1, 100, percent -> new PitchTracker().setThreshold(percent));
        edges.add("Returns the threshold before.", check -> {
            PitchTracker x = new PitchTracker();
            check.same("the first time", x.setThreshold(100), 20);
            check.same("after the highest", x.setThreshold(1), 100);
            check.same("after the lowest", x.setThreshold(1), 1);
            check.refusesArgument("setThreshold(101)", () -> x.setThreshold(101));
            check.same("after a refused one", x.setThreshold(50), 1);
            x.clear();
            check.same("after clear()", x.setThreshold(60), 50);
        });
        edges.add("Throws `IllegalArgumentException` if percent is out of range", check -> {
            // The mean difference at the lag 2 is 1/2.
            PitchTracker x = Sounds.startingWith(1, 0, 1);
            x.setThreshold(51);
            check.same("candidates(0) at 51 percent", x.candidates(0), 1);
            check.refusesArgument("setThreshold(0)", () -> x.setThreshold(0));
            check.same("candidates(0) after a refused 0", x.candidates(0), 1);
            x.setThreshold(50);
            check.refusesArgument("setThreshold(101)", () -> x.setThreshold(101));
            check.same("candidates(0) after a refused 101", x.candidates(0), 0);
        });
    }

    private static void addCosts(Edges edges) {
        edges.in("Promise 7");
        edges.add("- `unvoiced`: 0 to 1000: of being unvoiced", check -> {
            PitchTracker x = Sounds.silence(160);
            Edges.compareRange(check, 0, 1000, cost -> x.setCosts(cost, 50, 500));
            trackCostIs(check, x, 0, 50, 500, 0);
            trackCostIs(check, x, 1000, 50, 500, 2000);
        });
        edges.add("- `jump`: 0 to 100", check -> {
            PitchTracker x = jumping();
            Edges.compareRange(check, 0, 100, cost -> x.setCosts(1000, cost, 1000));
            trackCostIs(check, x, 1000, 0, 1000, 133);
            trackCostIs(check, x, 1000, 1, 1000, 133 + 19);
            trackCostIs(check, x, 1000, 100, 1000, 133 + 1900);
        });
        edges.add("- `change`: 0 to 1000", check -> {
            PitchTracker x = changing();
            Edges.compareRange(check, 0, 1000, cost -> x.setCosts(1000, 0, cost));
            trackCostIs(check, x, 1000, 0, 0, 3046);
            trackCostIs(check, x, 1000, 0, 1, 3047);
            trackCostIs(check, x, 1000, 0, 1000, 4046);
        });
        edges.add("Throws `IllegalArgumentException` if one of them is out of range", check -> {
            int[][] wrong = {{-1, 1, 1}, {1001, 1, 1}, {1, -1, 1}, {1, 101, 1}, {1, 1, -1}, {1, 1, 1001},
                {-1, -1, -1}, {1001, 101, 1001}};
            String due = Sounds.told(Sounds.mixed());
            for (int[] w : wrong) {
                PitchTracker x = Sounds.mixed();
                String costs = w[0] + ", " + w[1] + ", " + w[2];
                check.refusesArgument("setCosts(" + costs + ")", () -> x.setCosts(w[0], w[1], w[2]));
                check.same("all that is told after the refused " + costs, Sounds.told(x), due);
            }
        });
    }

    private static void trackCostIs(Check check, PitchTracker x, int unvoiced, int jump, int change, int due) {
        x.setCosts(unvoiced, jump, change);
        check.same("trackCost() at " + unvoiced + ", " + jump + ", " + change, x.trackCost(), due);
    }

    /** The lag is 2 and from the frame 5 on 21; the means where the two meet come to 133 thousandths. */
    private static PitchTracker jumping() {
        return Sounds.waves(new int[] {1, 2, 50, 160}, new int[] {1, 21, 50, 160});
    }

    /** Four frames with the lag 2, whose means come to 46 thousandths, and three without a candidate. */
    private static PitchTracker changing() {
        PitchTracker x = Sounds.square(2, 128);
        Sounds.addSquare(x, 2, 0, 192);
        return x;
    }

    private static void addTemperament(Edges edges) {
        edges.in("Promise 8");
        edges.add("- `temperament`: 0 to 2", check -> {
            PitchTracker x = twoTones();
            Edges.compareRange(check, 0, 2, temperament -> x.setTemperament(temperament, 3960));
            for (int temperament = 0; temperament <= 2; temperament++) {
                x.setTemperament(temperament, 3960);
                namesAre(check, x, temperament);
            }
        });
        edges.add("- `base`: 64 to 8192, in 64ths of a sample", check -> {
            PitchTracker x = Sounds.square(2, 128);
            Edges.compareRange(check, 64, 8192, base -> x.setTemperament(0, base));
            x.setTemperament(0, 64);
            check.same("octave(0) at the lowest base", x.octave(0), 0);
            x.setTemperament(0, 8192);
            // The period is 128, that is 8192 / 64.
            check.same("octave(0) at the highest base", x.octave(0), 6);
            check.same("name(0) at the highest base", x.name(0), 0);
        });
        edges.add("Throws `IllegalArgumentException` if temperament or base is out of range", check -> {
            int[][] wrong = {{-1, 64}, {3, 64}, {0, 63}, {1, 63}, {2, 63}, {0, 8193}, {1, 8193}, {2, 8193},
                {-1, 63}, {3, 8193}};
            for (int[] w : wrong) {
                for (int temperament = 0; temperament <= 2; temperament++) {
                    PitchTracker x = twoTones();
                    x.setTemperament(temperament, 3960);
                    check.refusesArgument("setTemperament(" + w[0] + ", " + w[1] + ")",
                            () -> x.setTemperament(w[0], w[1]));
                    namesAre(check, x, temperament);
                }
            }
        });
    }

    /** The frames 0 and 4 have the periods 1280 and 2880. */
    private static PitchTracker twoTones() {
        return Sounds.waves(new int[] {1, 20, 100, 128}, new int[] {1, 45, 100, 128});
    }

    /**
     * At the base 3960 in the temperament 0: 1247.4 and 2800.1; in 1: 1320.1 and 2816.0; in 2: 1252.9
     * and 2970.
     */
    private static void namesAre(Check check, PitchTracker x, int temperament) {
        int[][] due = {{8, 6}, {7, 6}, {8, 5}};
        check.same("name(0) in the temperament " + temperament, x.name(0), due[temperament][0]);
        check.same("octave(0) in the temperament " + temperament, x.octave(0), 1);
        check.same("name(4) in the temperament " + temperament, x.name(4), due[temperament][1]);
        check.same("octave(4) in the temperament " + temperament, x.octave(4), 0);
    }
}
