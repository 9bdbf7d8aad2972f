import java.lang.reflect.Constructor;
import java.lang.reflect.Field;
import java.lang.reflect.Method;
import java.lang.reflect.Modifier;
import java.util.Arrays;
import java.util.List;

/** "The public face", and rule 1 of LANGUAGE.md: nothing else can be seen from outside. */
public final class FaceTest {
    private static final Check CHECK = new Check("FaceTest");

    private static final List<String> FACE = List.of(
        "public void TrimCodes.letters(int)",
        "public void TrimCodes.limit(int)",
        "public void TrimCodes.weight(int,int,int,int,int)",
        "public long TrimCodes.least()");
    private static final List<String> NAMES = List.of("letters", "limit", "weight", "least");

    public static void main(String[] args) {
        CHECK.due("TrimCodes is public and final", TrimCodes.class.getModifiers() == (Modifier.PUBLIC | Modifier.FINAL));
        Constructor<?>[] made = TrimCodes.class.getDeclaredConstructors();
        CHECK.due("one constructor, public TrimCodes()", made.length == 1 && made[0].toString().equals("public TrimCodes()"));
        methods();
        fields();
        CHECK.end();
    }

    private static void methods() {
        List<String> all = Arrays.stream(TrimCodes.class.getDeclaredMethods()).map(Method::toString).toList();
        for (String method : FACE) {
            CHECK.due(method, all.contains(method));
        }
        for (Method method : TrimCodes.class.getDeclaredMethods()) {
            boolean hidden = Modifier.isPrivate(method.getModifiers()) && !NAMES.contains(method.getName());
            CHECK.due("of the face or hidden: " + method, FACE.contains(method.toString()) || hidden);
        }
    }

    private static void fields() {
        for (Field field : TrimCodes.class.getDeclaredFields()) {
            CHECK.due("private: " + field, Modifier.isPrivate(field.getModifiers()));
            CHECK.due("final if static: " + field,
                !Modifier.isStatic(field.getModifiers()) || Modifier.isFinal(field.getModifiers()));
        }
    }
}
