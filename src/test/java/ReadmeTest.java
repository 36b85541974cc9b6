import java.lang.reflect.Method;
import java.lang.reflect.Modifier;
import java.nio.file.Files;
import java.nio.file.Path;
import java.util.ArrayList;
import java.util.Arrays;
import java.util.List;
import java.util.regex.Matcher;
import java.util.regex.Pattern;
import java.util.stream.Collectors;
import javax.tools.ToolProvider;

/** README.md: its examples are compiled and run, and its table of calls is held against the class. */
public final class ReadmeTest {
    private static final Pattern ANSWERS = Pattern.compile("(int (\\w+) = )?(.+);\\s*// -> (-?\\d+)( .*)?");
    private static final Pattern THROWS = Pattern.compile("(.+);\\s*// throws (\\w+): .+");
    private static final Pattern WITHOUT_ANSWER =
        Pattern.compile("(StuckLines x = new StuckLines\\(\\)|x\\.clear\\(\\)|x\\.data\\(.+\\));.*");
    private static final Pattern EXCEPTION = Pattern.compile("\\w+Exception");

    public static void main(String[] args) throws Exception {
        List<String> readme = Files.readAllLines(Path.of("README.md"));
        List<String> examples = examplesOf(readme);
        run(examples);
        for (Method method : StuckLines.class.getDeclaredMethods()) {
            if (Modifier.isPublic(method.getModifiers())) {
                dueShown(method, examples);
                dueInTheTable(method, readme);
            }
        }
        Check.finish();
    }

    private static List<String> examplesOf(List<String> readme) {
        List<String> examples = new ArrayList<>();
        boolean inside = false;
        for (String line : readme) {
            if (line.startsWith("```")) {
                inside = line.equals("```java");
            } else if (inside) {
                examples.add(line);
            }
        }
        return examples;
    }

    /** The class is written beside the tests' own classes, so that it may use what they share. */
    private static void run(List<String> examples) throws Exception {
        Path classes = Path.of(Check.class.getProtectionDomain().getCodeSource().getLocation().toURI());
        Path source = classes.resolve("ReadmeExamples.java");
        Files.writeString(source, sourceOf(examples));
        int failed = ToolProvider.getSystemJavaCompiler().run(null, null, null,
            "-cp", classes.toString(), "-d", classes.toString(), source.toString());
        Check.due("the examples compile", failed, 0);
        if (failed == 0) {
            Method run = Class.forName("ReadmeExamples").getDeclaredMethod("run");
            run.setAccessible(true);
            run.invoke(null);
        }
    }

    private static String sourceOf(List<String> examples) {
        StringBuilder text = new StringBuilder("final class ReadmeExamples {\n    static void run() {\n");
        for (String example : examples) {
            text.append(checked(example)).append('\n');
        }
        return text.append("    }\n}\n").toString();
    }

    private static String checked(String example) {
        String what = "\"README: " + example.replace("\\", "\\\\").replace("\"", "\\\"") + "\"";
        Matcher answers = ANSWERS.matcher(example);
        if (answers.matches() && answers.group(1) != null) {
            return answers.group(1) + answers.group(3) + "; Check.due(" + what + ", " + answers.group(2) + ", "
                + answers.group(4) + "L);";
        }
        if (answers.matches()) {
            return "Check.due(" + what + ", " + answers.group(3) + ", " + answers.group(4) + "L);";
        }
        Matcher thrown = THROWS.matcher(example);
        if (thrown.matches()) {
            return "Check.dueThrow(" + what + ", " + thrown.group(2) + ".class, () -> { " + thrown.group(1)
                + "; return 0; });";
        }
        Check.due("an example tells what it answers: " + example, WITHOUT_ANSWER.matcher(example).matches() ? 1 : 0, 1);
        return example;
    }

    private static void dueShown(Method method, List<String> examples) {
        String call = "x." + method.getName() + "(";
        Check.due("an example shows " + method.getName(),
            examples.stream().anyMatch(example -> example.contains(call)) ? 1 : 0, 1);
    }

    private static void dueInTheTable(Method method, List<String> readme) {
        List<String> rows = readme.stream().filter(line -> line.startsWith("| `" + method.getName() + "("))
            .collect(Collectors.toList());
        Check.due("rows of " + method.getName(), rows.size(), 1);
        if (rows.size() == 1) {
            String[] cells = rows.get(0).split("\\|");
            String arguments = cells[1].substring(cells[1].indexOf('(') + 1, cells[1].indexOf(')'));
            Check.due("arguments of " + method.getName(), arguments.isEmpty() ? 0 : arguments.split(",").length,
                method.getParameterCount());
            String thrown = EXCEPTION.matcher(cells[3]).results().map(found -> found.group())
                .collect(Collectors.joining(" "));
            String due = Arrays.stream(method.getExceptionTypes()).map(Class::getSimpleName)
                .collect(Collectors.joining(" "));
            Check.dueText("what " + method.getName() + " throws", thrown, due);
        }
    }
}
