import java.io.IOException;
import java.lang.reflect.Method;
import java.lang.reflect.Modifier;
import java.nio.file.Files;
import java.nio.file.Path;

/** README.md names every call, and its example prints what stands below it. */
public final class ReadmeTest {
    public static void main(String[] args) throws IOException {
        Check check = new Check("ReadmeTest");
        String page = Files.readString(Path.of("README.md"));
        for (Method method : PitchTracker.class.getDeclaredMethods()) {
            if (Modifier.isPublic(method.getModifiers())) {
                check.isTrue("README.md names " + method.getName(), page.contains("`" + method.getName() + "("));
            }
        }
        check.isTrue("README.md tells what its example prints", page.contains("```\n" + example() + "```\n"));
        check.close();
    }

    /** The example's own lines, but for the printing. */
    private static String example() {
        StringBuilder text = new StringBuilder();
        PitchTracker tracker = new PitchTracker();
        tracker.feedWave(0, 20, 90, 256);
        tracker.feedWave(0, 27, 90, 256);
        for (int note = 0; note < tracker.notes(); note++) {
            int frame = tracker.noteStart(note);
            text.append("frame " + frame + ", " + tracker.noteLength(note) + " long: name "
                    + tracker.name(frame) + ", octave " + tracker.octave(frame)).append('\n');
        }
        return text.toString();
    }
}
