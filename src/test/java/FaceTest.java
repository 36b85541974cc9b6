import java.lang.reflect.Constructor;
import java.lang.reflect.Executable;
import java.lang.reflect.Field;
import java.lang.reflect.Method;
import java.lang.reflect.Modifier;
import java.util.Arrays;
import java.util.Set;
import java.util.TreeSet;

/** The class has the document's face and shows nothing else. */
public final class FaceTest {
    private static final String[] FACE = {
        "public StuckLines()",
        "public void clear()",
        "public int source(boolean) throws IllegalStateException",
        "public int gate(int, int, int, int) throws IllegalArgumentException, IndexOutOfBoundsException, "
            + "IllegalStateException",
        "public int output(int) throws IndexOutOfBoundsException, IllegalStateException",
        "public void data(int, int) throws IndexOutOfBoundsException, IllegalArgumentException",
        "public int count(int) throws IllegalArgumentException",
        "public int value(int, int, int) throws IndexOutOfBoundsException",
        "public int response(int, int) throws IndexOutOfBoundsException",
        "public int fault(int, int, int)",
        "public int faultAt(int, int) throws IndexOutOfBoundsException, IllegalArgumentException",
        "public int least(int) throws IndexOutOfBoundsException",
        "public long showing(int) throws IndexOutOfBoundsException",
        "public int alike(int) throws IndexOutOfBoundsException",
        "public int ternary(int, int, int, int) throws IndexOutOfBoundsException, IllegalArgumentException",
        "public int cube(int) throws IndexOutOfBoundsException",
        "public int packed(int)",
        "public int log(int, int) throws IndexOutOfBoundsException, IllegalArgumentException, "
            + "IllegalStateException",
        "public int forget()",
        "public int explains(int)",
    };

    public static void main(String[] args) {
        Set<String> seen = new TreeSet<>();
        for (Constructor<?> constructor : StuckLines.class.getDeclaredConstructors()) {
            seen.add(head(constructor, "StuckLines"));
        }
        Set<String> publicNames = new TreeSet<>();
        for (Method method : StuckLines.class.getMethods()) {
            publicNames.add(method.getName());
        }
        for (Method method : StuckLines.class.getDeclaredMethods()) {
            if (!Modifier.isPrivate(method.getModifiers())) {
                seen.add(head(method, method.getReturnType().getSimpleName() + " " + method.getName()));
            } else {
                Check.due("a private method bears a public name: " + method.getName(),
                    publicNames.contains(method.getName()) ? 1 : 0, 0);
            }
        }
        Check.dueText("the face", seen.toString(), new TreeSet<>(Arrays.asList(FACE)).toString());
        Check.due("final", Modifier.isFinal(StuckLines.class.getModifiers()) ? 1 : 0, 1);
        for (Field field : StuckLines.class.getDeclaredFields()) {
            boolean isNone = field.getName().equals("NONE");
            Check.due("private: " + field.getName(), Modifier.isPrivate(field.getModifiers()) ? 1 : 0, isNone ? 0 : 1);
        }
        Check.due("NONE", StuckLines.NONE, -1);
        Check.finish();
    }

    private static String head(Executable member, String name) {
        StringBuilder text = new StringBuilder(Modifier.toString(member.getModifiers()));
        text.append(' ').append(name).append('(').append(names(member.getParameterTypes())).append(')');
        if (member.getExceptionTypes().length > 0) {
            text.append(" throws ").append(names(member.getExceptionTypes()));
        }
        return text.toString();
    }

    private static String names(Class<?>[] types) {
        StringBuilder text = new StringBuilder();
        for (Class<?> type : types) {
            text.append(text.length() == 0 ? "" : ", ").append(type.getSimpleName());
        }
        return text.toString();
    }
}
