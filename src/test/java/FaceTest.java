import java.lang.reflect.Constructor;
import java.lang.reflect.Field;
import java.lang.reflect.Method;
import java.lang.reflect.Modifier;
import java.util.Arrays;
import java.util.List;

/** "The public face", and rules 1 and 6 of LANGUAGE.md: nothing else is seen from outside, and nothing thrown. */
public final class FaceTest {
    private static final Check CHECK = new Check("FaceTest");

    private static final List<String> FACE = List.of(
        "public void TrimCodes.letters(int)",
        "public void TrimCodes.limit(int)",
        "public void TrimCodes.weight(int,int,int,int,int)",
        "public long TrimCodes.least()");
    private static final List<String> NAMES = List.of("letters", "limit", "weight", "least");

    public static void main(String[] args) {
        CHECK.due("TrimCodes is public and final", TrimCodes.class.getModifiers() == (Modifier.PUBLIC | Modifier.FINAL));
        Constructor<?>[] made = TrimCodes.class.getDeclaredConstructors();
        CHECK.due("one constructor, public TrimCodes()", made.length == 1 && made[0].toString().equals("public TrimCodes()"));
        methods();
        fields();
        nothingIsThrown();
        CHECK.end();
    }

    /** The document names no exception, so no argument may bring one forth. */
    private static void nothingIsThrown() {
        int[] edges = {-2147483648, -2147483647, -33, -32, -31, -1, 0, 1, 15, 16, 31, 32, 2147483646, 2147483647};
        for (int k : edges) {
            for (int i : edges) {
                CHECK.due("letters(" + k + "), limit(" + i + "), weight(" + i + ", " + k + ", ..), least() answer",
                    answers(k, i));
            }
        }
    }

    private static boolean answers(int k, int i) {
        TrimCodes codes = new TrimCodes();
        try {
            codes.letters(k);
            codes.limit(i);
            codes.weight(i, k, k, k, k);
            codes.least();
            return true;
        } catch (RuntimeException thrown) {
            return false;
        }
    }

    private static void methods() {
        List<String> all = Arrays.stream(TrimCodes.class.getDeclaredMethods()).map(Method::toString).toList();
        for (String method : FACE) {
            CHECK.due(method, all.contains(method));
        }
        for (Method method : TrimCodes.class.getDeclaredMethods()) {
            boolean hidden = Modifier.isPrivate(method.getModifiers()) && !NAMES.contains(method.getName());
            CHECK.due("of the face or hidden: " + method, FACE.contains(method.toString()) || hidden);
        }
    }

    private static void fields() {
        for (Field field : TrimCodes.class.getDeclaredFields()) {
            CHECK.due("private: " + field, Modifier.isPrivate(field.getModifiers()));
            CHECK.due("final if static: " + field,
                !Modifier.isStatic(field.getModifiers()) || Modifier.isFinal(field.getModifiers()));
        }
    }
}
