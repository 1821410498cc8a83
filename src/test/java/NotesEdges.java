/** "Terms" on notes, and promises 24 to 27. */
final class NotesEdges {
    private NotesEdges() { }

    private interface NoteCall {
        int of(PitchTracker x, int note);
    }

    static void addTo(Edges edges) {
        edges.in("Terms");
        addNoteTerms(edges);
        edges.in("Promise 24");
        edges.add("Returns how many notes there are.", check -> {
            check.same("notes() of a new object", new PitchTracker().notes(), 0);
            check.same("notes() with 127 fed", Sounds.square(2, 127).notes(), 0);
            check.same("notes() of silence", Sounds.silence(1024).notes(), 0);
            check.same("notes() of one frame", Sounds.square(2, 128).notes(), 1);
            check.same("notes() of the longest tone", Sounds.square(2, 1024).notes(), 1);
            PitchTracker x = twoTones();
            check.same("notes() of two tones", x.notes(), 2);
            x.clear();
            check.same("notes() after clear()", x.notes(), 0);
        });
        edges.in("Promise 25");
        addNote(edges, (x, note) -> x.noteStart(note), 0, 5, 0);
        edges.in("Promise 26");
        addNote(edges, (x, note) -> x.noteLength(note), 5, 4, 29);
        edges.in("Promise 27");
        FramesEdges.addFrame(edges, (x, frame) -> x.noteOf(frame));
        edges.add("Returns the note; -1 if the frame is unvoiced.", check -> {
            check.same("noteOf(0) of silence", Sounds.silence(128).noteOf(0), -1);
            notesAre(check, "a tone between silence", toneBetweenSilence(), -1, -1, -1, -1, 0, 0, 0, 0, 0, 0,
                    -1, -1, -1);
        });
    }

    /** The frames 0 to 4 have the octave 5, the frames 5 to 8 the octave 4, and all the name 0. */
    private static PitchTracker twoTones() {
        return Sounds.waves(new int[] {2, 2, 50, 192}, new int[] {2, 4, 50, 192});
    }

    private static PitchTracker toneBetweenSilence() {
        PitchTracker x = Sounds.waves(new int[] {2, 2, 0, 160}, new int[] {2, 2, 50, 160}, new int[] {2, 2, 0, 192});
        x.setCosts(100, 0, 0);
        return x;
    }

    private static void addNote(Edges edges, NoteCall call, int first, int second, int longest) {
        edges.add("- `note`: from 0", check -> {
            PitchTracker x = twoTones();
            check.same("of the note 0", call.of(x, 0), first);
            check.refusesIndex("the note -1", () -> call.of(x, -1));
            check.refusesIndex("the lowest number", () -> call.of(x, Integer.MIN_VALUE));
        });
        edges.add("Throws `IndexOutOfBoundsException` if there is no such note", check -> {
            check.refusesIndex("the note 0 of a new object", () -> call.of(new PitchTracker(), 0));
            check.refusesIndex("the note 0 with 127 fed", () -> call.of(Sounds.square(2, 127), 0));
            check.refusesIndex("the note 0 of silence", () -> call.of(Sounds.silence(1024), 0));
            PitchTracker x = twoTones();
            check.same("of the last note", call.of(x, 1), second);
            check.refusesIndex("the note 2 of 2", () -> call.of(x, 2));
            check.refusesIndex("the highest number", () -> call.of(x, Integer.MAX_VALUE));
            x.setTemperament(0, 64);
            check.refusesIndex("the note 1 of 1", () -> call.of(x, 1));
            x.clear();
            check.refusesIndex("the note 0 after clear()", () -> call.of(x, 0));
            check.same("of the longest note", call.of(Sounds.square(2, 1024), 0), longest);
        });
    }

    private static void addNoteTerms(Edges edges) {
        edges.add("A note is a run of voiced frames that follow one another and have the same name and octave",
                check -> {
            PitchTracker x = twoTones();
            check.same("name(5), as that ahead", x.name(5), x.name(4));
            notesAre(check, "two octaves", x, 0, 0, 0, 0, 0, 1, 1, 1, 1);
            // 170 * 0.7492 is 127.4, and 256 is nearest to 170.
            x.setTemperament(0, 170);
            check.same("octave(5), as that ahead", x.octave(5), x.octave(4));
            notesAre(check, "two names", x, 0, 0, 0, 0, 0, 1, 1, 1, 1);
            x.setTemperament(0, 64);
            notesAre(check, "two lags of one name", x, 0, 0, 0, 0, 0, 0, 0, 0, 0);
            notesAre(check, "a tone and a tone behind a gap", toneGapTone(), 0, 0, 0, 0, 0, 0, -1, -1, -1, -1, -1,
                    -1, 1, 1);
        });
        edges.add("as long as can be", check -> {
            check.same("noteLength(0) of the longest tone", Sounds.square(2, 1024).noteLength(0), 29);
            notesAre(check, "one frame", Sounds.square(2, 128), 0);
            PitchTracker x = Sounds.square(2, 128);
            for (int frame = 1; frame < 29; frame++) {
                x.feedWave(2, 2, 50, 32);
                check.same("noteLength(0) with " + frame + " more", x.noteLength(0), frame + 1);
            }
        });
        edges.add("but a frame that is an onset begins a new note", check -> {
            PitchTracker x = Sounds.waves(new int[] {2, 2, 10, 192}, new int[] {2, 2, 100, 192});
            oneNameOnly(x);
            onsetsAre(check, x, true, false, false, false, false, true, false, false, false);
            notesAre(check, "an onset", x, 0, 0, 0, 0, 0, 1, 1, 1, 1);
        });
        edges.add("unless the frame ahead of it was an onset, too", check -> {
            // The frame 4 has 16 loud samples among 64, the frame 5 has 48.
            PitchTracker two = Sounds.waves(new int[] {2, 2, 10, 176}, new int[] {2, 2, 100, 208});
            oneNameOnly(two);
            onsetsAre(check, two, true, false, false, false, true, true, false, false, false);
            notesAre(check, "two onsets", two, 0, 0, 0, 0, 1, 1, 1, 1, 1);
            PitchTracker four = Sounds.waves(new int[] {2, 2, 5, 32}, new int[] {2, 2, 10, 32},
                    new int[] {2, 2, 20, 32}, new int[] {2, 2, 40, 32}, new int[] {2, 2, 80, 128});
            oneNameOnly(four);
            onsetsAre(check, four, true, true, true, true, false);
            notesAre(check, "four onsets", four, 0, 0, 0, 0, 0);
        });
        edges.add("Notes are numbered from 0 on by their frames.", check -> {
            PitchTracker x = Sounds.waves(new int[] {2, 2, 0, 160}, new int[] {2, 2, 50, 192},
                    new int[] {2, 4, 50, 192});
            x.setCosts(100, 10, 0);
            check.same("notes()", x.notes(), 2);
            check.same("noteOf(0) in silence", x.noteOf(0), -1);
            check.isTrue("the note 0 starts behind the silence", x.noteStart(0) > 0);
            check.same("noteOf(the note 0's first frame)", x.noteOf(x.noteStart(0)), 0);
            check.same("noteOf(the note 1's first frame)", x.noteOf(x.noteStart(1)), 1);
            check.same("the note 1 starts behind it", x.noteStart(1), x.noteStart(0) + x.noteLength(0));
            check.same("the note 1 ends with the sound", x.noteStart(1) + x.noteLength(1), x.frames());
        });
    }

    /** Only the frames that hold no sample of the gap, up to 64 and the lag of 2, are cheaper than 10. */
    private static PitchTracker toneGapTone() {
        PitchTracker x = Sounds.waves(new int[] {2, 2, 20, 256}, new int[] {2, 2, 0, 128}, new int[] {2, 2, 20, 160});
        x.setCosts(10, 0, 0);
        return x;
    }

    /** All frames are voiced, and at the base 64 every lag from 2 on has the name 0 in the octave 0. */
    private static void oneNameOnly(PitchTracker x) {
        x.setTemperament(0, 64);
        x.setThreshold(100);
        x.setCosts(1000, 10, 1000);
    }

    private static void onsetsAre(Check check, PitchTracker x, boolean... due) {
        for (int frame = 0; frame < due.length; frame++) {
            check.isTrue("isOnset(" + frame + ") is " + due[frame], x.isOnset(frame) == due[frame]);
        }
    }

    /** Compares every call on notes with the note that is due for each frame. */
    private static void notesAre(Check check, String sound, PitchTracker x, int... notes) {
        check.same("frames() of " + sound, x.frames(), notes.length);
        int count = 0;
        for (int frame = 0; frame < notes.length; frame++) {
            check.same("noteOf(" + frame + ") of " + sound, x.noteOf(frame), notes[frame]);
            if (notes[frame] == count) {
                check.same("noteStart(" + count + ") of " + sound, x.noteStart(count), frame);
                check.same("noteLength(" + count + ") of " + sound, x.noteLength(count), howOften(count, notes));
                count++;
            }
        }
        check.same("notes() of " + sound, x.notes(), count);
        int beyond = count;
        check.refusesIndex("noteStart(" + count + ") of " + sound, () -> x.noteStart(beyond));
        check.refusesIndex("noteLength(" + count + ") of " + sound, () -> x.noteLength(beyond));
    }

    private static int howOften(int note, int... notes) {
        int times = 0;
        for (int one : notes) {
            times += one == note ? 1 : 0;
        }
        return times;
    }
}
