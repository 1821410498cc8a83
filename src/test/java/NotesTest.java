/** Promises 24 to 27: the notes. */
public final class NotesTest {
    private static final Check CHECK = new Check("NotesTest");

    public static void main(String[] args) {
        noNotes();
        oneNote();
        firstCallTells();
        nameBeginsNote();
        unvoicedEndsNote();
        onsetBeginsNote();
        onsetBehindOnsetDoesNot();
        wrongNotes();
        CHECK.close();
    }

    /** Compares every call on notes with the note that is due for each frame. */
    private static void notesAre(String sound, PitchTracker x, int... notes) {
        CHECK.same("frames() of " + sound, x.frames(), notes.length);
        int count = 0;
        for (int frame = 0; frame < notes.length; frame++) {
            CHECK.same("noteOf(" + frame + ") of " + sound, x.noteOf(frame), notes[frame]);
            count = Math.max(count, notes[frame] + 1);
        }
        CHECK.same("notes() of " + sound, x.notes(), count);
        for (int note = 0; note < count; note++) {
            int start = -1;
            int length = 0;
            for (int frame = 0; frame < notes.length; frame++) {
                if (notes[frame] == note) {
                    start = start < 0 ? frame : start;
                    length++;
                }
            }
            CHECK.same("noteStart(" + note + ") of " + sound, x.noteStart(note), start);
            CHECK.same("noteLength(" + note + ") of " + sound, x.noteLength(note), length);
        }
    }

    private static void noNotes() {
        PitchTracker x = new PitchTracker();
        notesAre("no sound", x);
        x.feedWave(2, 2, 0, 192);
        notesAre("silence", x, -1, -1, -1);
    }

    private static void oneNote() {
        PitchTracker x = new PitchTracker();
        x.feedWave(2, 2, 50, 192);
        notesAre("a tone", x, 0, 0, 0);
        PitchTracker longest = new PitchTracker();
        longest.feedWave(2, 2, 50, 400);
        longest.feedWave(2, 2, 50, 400);
        longest.feedWave(2, 2, 50, 224);
        notesAre("the longest tone", longest, new int[29]);
    }

    /** Each call tells of the sound that there is, whatever was asked ahead of it. */
    private static void firstCallTells() {
        CHECK.same("notes() as the first call", twoTones().notes(), 2);
        CHECK.same("noteStart(1) as the first call", twoTones().noteStart(1), 5);
        CHECK.same("noteLength(1) as the first call", twoTones().noteLength(1), 4);
        CHECK.same("noteOf(5) as the first call", twoTones().noteOf(5), 1);
        CHECK.refusesIndex("noteStart(2) as the first call", () -> twoTones().noteStart(2));
        CHECK.refusesIndex("noteLength(2) as the first call", () -> twoTones().noteLength(2));
    }

    private static PitchTracker twoTones() {
        PitchTracker x = new PitchTracker();
        x.feedWave(2, 2, 50, 192);
        x.feedWave(2, 4, 50, 192);
        return x;
    }

    /** The lag is 2 for the frames 0 to 4, then 4: another octave, or at the base 64 the same. */
    private static void nameBeginsNote() {
        PitchTracker x = twoTones();
        notesAre("two tones", x, 0, 0, 0, 0, 0, 1, 1, 1, 1);
        CHECK.same("name(4) of two tones", x.name(4), x.name(5));
        CHECK.same("octave(4) of two tones", x.octave(4), x.octave(5) + 1);
        x.setTemperament(0, 64);
        notesAre("two tones of one name", x, 0, 0, 0, 0, 0, 0, 0, 0, 0);
        x.setTemperament(0, 170);
        // 170 * 0.7492 is 127.4, and 256 is nearest to 170: two names in the octave 0.
        CHECK.same("octave(4) at the base 170", x.octave(4), 0);
        CHECK.same("octave(5) at the base 170", x.octave(5), 0);
        notesAre("two tones of two names", x, 0, 0, 0, 0, 0, 1, 1, 1, 1);
    }

    private static void unvoicedEndsNote() {
        PitchTracker x = new PitchTracker();
        x.feedWave(2, 2, 0, 160);
        x.feedWave(2, 2, 20, 192);
        x.feedWave(2, 2, 0, 192);
        x.feedWave(2, 2, 20, 192);
        x.setCosts(10, 0, 0);
        CHECK.same("notes() with a gap", x.notes(), 2);
        CHECK.same("noteOf(0) in silence", x.noteOf(0), -1);
        int behind = x.noteStart(0) + x.noteLength(0);
        CHECK.same("noteOf behind the note 0", x.noteOf(behind), -1);
        CHECK.same("lag behind the note 0", x.lag(behind), 0);
        CHECK.same("noteOf ahead of the note 1", x.noteOf(x.noteStart(1) - 1), -1);
        CHECK.same("noteOf the start of the note 1", x.noteOf(x.noteStart(1)), 1);
        CHECK.same("noteOf the last frame", x.noteOf(x.frames() - 1), 1);
    }

    /** From the sample 192 on it is louder. At the base 64 all lags have one name. */
    private static void onsetBeginsNote() {
        PitchTracker x = new PitchTracker();
        x.feedWave(2, 2, 10, 192);
        x.feedWave(2, 2, 100, 192);
        x.setTemperament(0, 64);
        x.setThreshold(100);
        x.setCosts(1000, 10, 1000);
        onsetsAre(x, true, false, false, false, false, true, false, false, false);
        notesAre("an onset", x, 0, 0, 0, 0, 0, 1, 1, 1, 1);
    }

    /** From the sample 176 on it is louder: the frame 4 has 16 loud ones, the frame 5 has 48. */
    private static void onsetBehindOnsetDoesNot() {
        PitchTracker x = new PitchTracker();
        x.feedWave(2, 2, 10, 176);
        x.feedWave(2, 2, 100, 208);
        onsetsAre(x, true, false, false, false, true, true, false, false, false);
        notesAre("two onsets", x, 0, 0, 0, 0, 1, 1, 1, 1, 1);
        threeOnsets();
    }

    /**
     * The amplitudes 5, 10, 20, 40, 80 in steps of 32: each frame has four times the energy of the
     * one ahead, so all are onsets and none but the first begins a note.
     */
    private static void threeOnsets() {
        PitchTracker x = new PitchTracker();
        int[] amplitudes = {5, 10, 20, 40, 80};
        for (int amplitude : amplitudes) {
            x.feedWave(2, 2, amplitude, 32);
        }
        x.feedWave(2, 2, 80, 96);
        x.setThreshold(100);
        x.setCosts(1000, 10, 1000);
        onsetsAre(x, true, true, true, true, false);
        notesAre("onset behind onset", x, 0, 0, 0, 0, 0);
    }

    private static void onsetsAre(PitchTracker x, boolean... due) {
        for (int frame = 0; frame < due.length; frame++) {
            CHECK.same("isOnset(" + frame + ")", x.isOnset(frame) ? 1 : 0, due[frame] ? 1 : 0);
        }
    }

    private static void wrongNotes() {
        PitchTracker x = new PitchTracker();
        CHECK.refusesIndex("noteStart(0) without notes", () -> x.noteStart(0));
        CHECK.refusesIndex("noteLength(0) without notes", () -> x.noteLength(0));
        CHECK.refusesIndex("noteOf(0) without frames", () -> x.noteOf(0));
        x.feedWave(2, 2, 50, 192);
        int[] wrong = {1, -1, 29, Integer.MAX_VALUE, Integer.MIN_VALUE};
        for (int note : wrong) {
            CHECK.refusesIndex("noteStart(" + note + ")", () -> x.noteStart(note));
            CHECK.refusesIndex("noteLength(" + note + ")", () -> x.noteLength(note));
        }
        int[] wrongFrames = {3, -1, 29, Integer.MAX_VALUE, Integer.MIN_VALUE};
        for (int frame : wrongFrames) {
            CHECK.refusesIndex("noteOf(" + frame + ")", () -> x.noteOf(frame));
        }
        x.clear();
        CHECK.refusesIndex("noteStart(0) after clear()", () -> x.noteStart(0));
        CHECK.refusesIndex("noteLength(0) after clear()", () -> x.noteLength(0));
    }
}
