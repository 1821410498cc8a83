/** Every base of the three temperaments with tones of many periods: the names' rows to the last digit. */
public final class TemperamentTest {
    private static final Check CHECK = new Check("TemperamentTest");
    private static final double[][] ROWS = {
        {1, .9439, .8909, .8409, .7937, .7492, .7071, .6674, .63, .5946, .5612, .5297},
        {1, .9375, .8889, .8333, .8, .75, .7111, .6667, .625, .6, .5625, .5333},
        {1, .9492, .8889, .8438, .7901, .75, .7023, .6667, .6328, .5926, .5625, .5267},
    };

    public static void main(String[] args) {
        int[] periods = {2, 9, 17, 26, 33, 38, 44, 47, 51, 55, 58, 59, 60, 61, 62, 63};
        for (int period : periods) {
            for (int temperament = 0; temperament < 3; temperament++) {
                PitchTracker x = triangle(period);
                for (int base = 64; base <= 8192; base++) {
                    if (base % 100 == 0) {
                        x = triangle(period);
                    }
                    x.setTemperament(temperament, base);
                    compare(x, temperament, base);
                }
            }
        }
        CHECK.close();
    }

    private static PitchTracker triangle(int period) {
        PitchTracker x = new PitchTracker();
        x.feedWave(1, period, 100, 128);
        return x;
    }

    /** Where two patterns are as good as equally near, ModelTest and TrackTest tell which is due. */
    private static void compare(PitchTracker x, int temperament, int base) {
        double period = x.period(0);
        double nearest = Double.MAX_VALUE;
        double next = Double.MAX_VALUE;
        int due = -1;
        for (int pattern = 0; pattern < 84; pattern++) {
            double size = base * ROWS[temperament][pattern % 12] / (1 << pattern / 12);
            double distance = Math.abs(size - period);
            if (distance < nearest) {
                next = nearest;
                nearest = distance;
                due = pattern;
            } else {
                next = Math.min(next, distance);
            }
        }
        if (next - nearest > 0.0001) {
            int got = 12 * x.octave(0) + x.name(0);
            CHECK.same("period " + period + ", temperament " + temperament + ", base " + base, got, due);
        }
    }
}
