import java.lang.reflect.Constructor;
import java.lang.reflect.Field;
import java.lang.reflect.Method;
import java.lang.reflect.Modifier;
import java.util.ArrayList;
import java.util.Arrays;
import java.util.Collections;
import java.util.List;

/** The class shows the document's face, and nothing else. */
public final class FaceTest {
    private static final String[] FACE = {
        "int feed(int) IllegalArgumentException IllegalStateException",
        "int feedWave(int,int,int,int) IllegalArgumentException IllegalStateException",
        "int feedNoise(int,int,int) IllegalArgumentException IllegalStateException",
        "int clear()",
        "int setThreshold(int) IllegalArgumentException",
        "void setCosts(int,int,int) IllegalArgumentException",
        "void setTemperament(int,int) IllegalArgumentException",
        "int samples()",
        "int sample(int) IndexOutOfBoundsException",
        "int frames()",
        "int energy(int,int) IndexOutOfBoundsException IllegalArgumentException",
        "int autocorrelation(int,int) IndexOutOfBoundsException IllegalArgumentException",
        "int difference(int,int) IndexOutOfBoundsException IllegalArgumentException",
        "int meanDifference(int,int) IndexOutOfBoundsException IllegalArgumentException",
        "int candidates(int) IndexOutOfBoundsException",
        "int candidateLag(int,int) IndexOutOfBoundsException",
        "int trackCost()",
        "int lag(int) IndexOutOfBoundsException",
        "int period(int) IndexOutOfBoundsException",
        "int name(int) IndexOutOfBoundsException",
        "int octave(int) IndexOutOfBoundsException",
        "boolean isOnset(int) IndexOutOfBoundsException",
        "int notes()",
        "int noteStart(int) IndexOutOfBoundsException",
        "int noteLength(int) IndexOutOfBoundsException",
        "int noteOf(int) IndexOutOfBoundsException",
    };

    public static void main(String[] args) {
        Check check = new Check("FaceTest");
        Class<?> face = PitchTracker.class;
        check.same("the class's modifiers", Modifier.toString(face.getModifiers()), "public final");

        List<String> due = new ArrayList<>(Arrays.asList(FACE));
        Collections.sort(due);
        check.same("the methods", visibleMethods(face).toString(), due.toString());

        Constructor<?>[] constructors = face.getDeclaredConstructors();
        check.same("how many constructors", constructors.length, 1);
        check.same("the constructor", constructors[0].toString(), "public PitchTracker()");

        for (Field field : face.getDeclaredFields()) {
            check.isTrue(field + " is private", Modifier.isPrivate(field.getModifiers()));
        }
        for (Method method : face.getDeclaredMethods()) {
            boolean shared = Modifier.isPrivate(method.getModifiers()) && isOfFace(method.getName());
            check.isTrue(method + " bears no name of the face", !shared);
        }
        check.close();
    }

    private static List<String> visibleMethods(Class<?> face) {
        List<String> found = new ArrayList<>();
        for (Method method : face.getDeclaredMethods()) {
            if (!Modifier.isPrivate(method.getModifiers()) && !method.isSynthetic()) {
                found.add(told(method));
            }
        }
        Collections.sort(found);
        return found;
    }

    private static String told(Method method) {
        StringBuilder text = new StringBuilder();
        text.append(method.getReturnType()).append(' ').append(method.getName()).append('(');
        for (int i = 0; i < method.getParameterCount(); i++) {
            text.append(i == 0 ? "" : ",").append(method.getParameterTypes()[i]);
        }
        text.append(')');
        for (Class<?> thrown : method.getExceptionTypes()) {
            text.append(' ').append(thrown.getSimpleName());
        }
        return text.toString();
    }

    private static boolean isOfFace(String name) {
        for (String line : FACE) {
            if (line.contains(" " + name + "(")) {
                return true;
            }
        }
        return false;
    }
}
