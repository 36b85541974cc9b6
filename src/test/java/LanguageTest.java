import java.lang.reflect.Executable;
import java.lang.reflect.Field;
import java.lang.reflect.Modifier;
import java.nio.file.Files;
import java.nio.file.Path;
import java.util.ArrayList;
import java.util.Arrays;
import java.util.List;
import java.util.Map;
import java.util.Set;
import java.util.TreeMap;
import java.util.TreeSet;
import java.util.regex.Matcher;
import java.util.regex.Pattern;

/**
 * The rules of LANGUAGE.md that can be read off the source or the compiled class. Where the program uses less than
 * a rule leaves, it is held to the less: no library at all, no recursion, no object made by a call of the face.
 */
public final class LanguageTest {
    private static final Pattern METHOD = Pattern.compile(
        "(?:void|int|long|boolean)\\s+(\\w+)\\([^()]*\\)\\s*(?:throws [\\w,\\s]+)?\\{");
    private static final Pattern CONSTRUCTOR = Pattern.compile("[{};]\\s*(?:public )?([A-Z]\\w+)\\([^()]*\\)\\s*\\{");
    private static final Pattern LIBRARY_NAME = Pattern.compile("\\b[A-Z]+[a-z]\\w*");
    private static final Set<String> EXCEPTIONS = Set.of("IllegalStateException", "IllegalArgumentException",
        "IndexOutOfBoundsException");

    private static final List<Class<?>> CLASSES = new ArrayList<>();
    private static final Map<String, String> BODIES = new TreeMap<>();

    public static void main(String[] args) throws Exception {
        CLASSES.add(StuckLines.class);
        CLASSES.addAll(Arrays.asList(StuckLines.class.getDeclaredClasses()));
        String source = Files.readString(Path.of("src/main/java/StuckLines.java"));
        String code = source.replaceAll("(?s)/\\*.*?\\*/", "").replaceAll("//.*", "").replaceAll("\"[^\"]*\"", "\"\"");
        gatherBodies(code);
        nothingFromOutside(code);
        fields();
        exceptions(code);
        sizes();
        depthOfCalls();
        objectsMadeByCalls();
        Check.finish();
    }

    private static void dueNone(String what, String pattern, String code) {
        Matcher found = Pattern.compile(pattern).matcher(code);
        Check.dueText(what, found.find() ? found.group() : "none", "none");
    }

    /** Methods that bear one name are taken together. */
    private static void gatherBodies(String code) {
        Matcher head = METHOD.matcher(code);
        while (head.find()) {
            BODIES.merge(head.group(1), bodyBehind(head.end(), code), (one, other) -> one + other);
        }
        for (Class<?> type : CLASSES) {
            for (Executable method : type.getDeclaredMethods()) {
                Check.due("found in the source: " + method.getName(), BODIES.containsKey(method.getName()) ? 1 : 0, 1);
            }
        }
    }

    private static String bodyBehind(int start, String code) {
        int end = start;
        for (int depth = 1; depth > 0; end++) {
            depth += code.charAt(end) == '{' ? 1 : code.charAt(end) == '}' ? -1 : 0;
        }
        return code.substring(start, end);
    }

    private static void nothingFromOutside(String code) {
        dueNone("a package or an import", "\\b(package|import)\\b", code);
        dueNone("a lambda or a method reference", "->|::", code);
        dueNone("an anonymous class", "new \\w+\\([^()]*\\)\\s*\\{", code);
        dueNone("static state", "static\\s*\\{", code);
        dueNone("joined texts", "\"\"\\s*\\+|\\+\\s*\"\"", code);
        Set<String> own = new TreeSet<>(EXCEPTIONS);
        for (Class<?> type : CLASSES) {
            own.add(type.getSimpleName());
            Check.due("no class inside a class inside", type == StuckLines.class ? 0 : type.getDeclaredClasses().length, 0);
        }
        Matcher name = LIBRARY_NAME.matcher(code);
        while (name.find()) {
            Check.dueText("only names of its own", own.contains(name.group()) ? "" : name.group(), "");
        }
    }

    private static void fields() {
        for (Class<?> type : CLASSES) {
            int ofObjects = 0;
            for (Field field : type.getDeclaredFields()) {
                int modifiers = field.getModifiers();
                Class<?> kept = field.getType().isArray() ? field.getType().getComponentType() : field.getType();
                String name = type.getSimpleName() + "." + field.getName();
                Check.due("numbers, rows of them or own classes: " + name,
                    kept.isPrimitive() || CLASSES.contains(kept) ? 1 : 0, 1);
                if (Modifier.isStatic(modifiers)) {
                    Check.due("final: " + name, Modifier.isFinal(modifiers) ? 1 : 0, 1);
                } else {
                    ofObjects++;
                }
            }
            Check.due("at most 20 fields: " + type.getSimpleName(), ofObjects <= 20 ? 1 : 0, 1);
        }
    }

    private static void exceptions(String code) {
        dueNone("a throw that is not written out", "throw (?!new (" + String.join("|", EXCEPTIONS) + ")\\(\"\"\\);)", code);
        dueNone("what the program does without", "\\b(try|catch|finally|synchronized|assert|instanceof|equals|hashCode)\\b", code);
        Matcher head = CONSTRUCTOR.matcher(code);
        while (head.find()) {
            dueNone("a throw in a constructor", "\\bthrow\\b", bodyBehind(head.end(), code));
        }
    }

    private static void sizes() {
        Check.due("at most 12 classes", CLASSES.size() <= 12 ? 1 : 0, 1);
        for (Class<?> type : CLASSES) {
            List<Executable> members = new ArrayList<>(Arrays.asList(type.getDeclaredMethods()));
            members.addAll(Arrays.asList(type.getDeclaredConstructors()));
            for (Executable member : members) {
                Check.due("at most 7 parameters: " + member, member.getParameterCount() <= 7 ? 1 : 0, 1);
            }
        }
        for (String name : BODIES.keySet()) {
            long lines = BODIES.get(name).lines().count();
            Check.due("at most 60 lines: " + name, lines <= 60 ? 1 : 0, 1);
        }
    }

    private static void depthOfCalls() {
        for (String name : BODIES.keySet()) {
            Check.due("at most 8 calls deep: " + name, depthFrom(name, 1) <= 8 ? 1 : 0, 1);
        }
    }

    /** A method that calls itself, by whatever way, would go beyond any bound. */
    private static int depthFrom(String name, int depth) {
        int deepest = depth;
        for (String called : BODIES.keySet()) {
            if (depth <= 8 && Pattern.compile("\\b" + called + "\\(").matcher(BODIES.get(name)).find()) {
                deepest = Math.max(deepest, depthFrom(called, depth + 1));
            }
        }
        return deepest;
    }

    private static void objectsMadeByCalls() {
        for (String name : BODIES.keySet()) {
            dueNone("an object that " + name + " makes", "(?<!throw )\\bnew\\b", BODIES.get(name));
        }
    }
}
