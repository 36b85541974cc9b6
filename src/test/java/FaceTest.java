import java.lang.reflect.Constructor;
import java.lang.reflect.Executable;
import java.lang.reflect.Field;
import java.lang.reflect.Method;
import java.lang.reflect.Modifier;
import java.util.Arrays;
import java.util.Set;
import java.util.TreeSet;

/** The class has the document's face and shows nothing else. */
public final class FaceTest {
    private static final String[] FACE = {
        "public StuckLines()",
        "public void clear()",
        "public int source(boolean) throws IllegalStateException",
        "public int gate(int, int, int, int) throws IllegalArgumentException, IndexOutOfBoundsException, "
            + "IllegalStateException",
        "public int output(int) throws IndexOutOfBoundsException, IllegalStateException",
        "public void data(int, int) throws IndexOutOfBoundsException, IllegalArgumentException",
        "public int count(int) throws IllegalArgumentException",
        "public int value(int, int, int) throws IndexOutOfBoundsException",
        "public int response(int, int) throws IndexOutOfBoundsException",
        "public int fault(int, int, int)",
        "public int faultAt(int, int) throws IndexOutOfBoundsException, IllegalArgumentException",
        "public int least(int) throws IndexOutOfBoundsException",
        "public long showing(int) throws IndexOutOfBoundsException",
        "public int alike(int) throws IndexOutOfBoundsException",
        "public int ternary(int, int, int, int) throws IndexOutOfBoundsException, IllegalArgumentException",
        "public int cube(int) throws IndexOutOfBoundsException",
        "public int packed(int)",
        "public int log(int, int) throws IndexOutOfBoundsException, IllegalArgumentException, "
            + "IllegalStateException",
        "public int forget()",
        "public int explains(int)",
    };

    public static void main(String[] args) {
        theClass();
        everyMember();
        noPrivateMethodWithAPublicName(StuckLines.class);
        classesInside();
        Check.due("NONE", StuckLines.NONE, -1);
        Check.finish();
    }

    private static void theClass() {
        Class<?> face = StuckLines.class;
        Check.dueText("the class", Modifier.toString(face.getModifiers()) + " " + face.getName(),
            "public final StuckLines");
        Check.dueText("what it extends", face.getSuperclass().getSimpleName(), "Object");
        Check.due("what it implements", face.getInterfaces().length, 0);
        Check.dueText("no package", face.getPackageName(), "");
    }

    private static void everyMember() {
        Set<String> seen = new TreeSet<>();
        for (Constructor<?> constructor : StuckLines.class.getDeclaredConstructors()) {
            addUnlessPrivate(seen, constructor, "StuckLines");
        }
        for (Method method : StuckLines.class.getDeclaredMethods()) {
            addUnlessPrivate(seen, method, method.getReturnType().getSimpleName() + " " + method.getName());
        }
        Check.dueText("the face", seen.toString(), new TreeSet<>(Arrays.asList(FACE)).toString());
        Set<String> fields = new TreeSet<>();
        for (Field field : StuckLines.class.getDeclaredFields()) {
            if (!Modifier.isPrivate(field.getModifiers())) {
                fields.add(Modifier.toString(field.getModifiers()) + " " + field.getType() + " " + field.getName());
            }
        }
        Check.dueText("the constants", fields.toString(), "[public static final int NONE]");
    }

    private static void addUnlessPrivate(Set<String> seen, Executable member, String name) {
        if (!Modifier.isPrivate(member.getModifiers())) {
            seen.add(head(member, name));
        }
    }

    /** Rule 1 of the language, read as strictly as can be: in the classes inside, too. */
    private static void noPrivateMethodWithAPublicName(Class<?> type) {
        for (Method method : type.getDeclaredMethods()) {
            boolean isPublicName = Arrays.stream(StuckLines.class.getMethods())
                .anyMatch(other -> other.getName().equals(method.getName()));
            if (Modifier.isPrivate(method.getModifiers())) {
                Check.due("a private method bears a public name: " + method.getName(), isPublicName ? 1 : 0, 0);
            }
        }
    }

    private static void classesInside() {
        for (Class<?> inside : StuckLines.class.getDeclaredClasses()) {
            int modifiers = inside.getModifiers();
            boolean isShown = Modifier.isPublic(modifiers) || Modifier.isProtected(modifiers);
            Check.due("shown to all: " + inside.getSimpleName(), isShown ? 1 : 0, 0);
            Check.due("static: " + inside.getSimpleName(), Modifier.isStatic(modifiers) ? 1 : 0, 1);
            noPrivateMethodWithAPublicName(inside);
        }
    }

    private static String head(Executable member, String name) {
        StringBuilder text = new StringBuilder(Modifier.toString(member.getModifiers()));
        text.append(' ').append(name).append('(').append(names(member.getParameterTypes())).append(')');
        if (member.getExceptionTypes().length > 0) {
            text.append(" throws ").append(names(member.getExceptionTypes()));
        }
        return text.toString();
    }

    private static String names(Class<?>[] types) {
        StringBuilder text = new StringBuilder();
        for (Class<?> type : types) {
            text.append(text.length() == 0 ? "" : ", ").append(type.getSimpleName());
        }
        return text.toString();
    }
}
