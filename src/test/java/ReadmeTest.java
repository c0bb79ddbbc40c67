import java.io.IOException;
import java.lang.reflect.InvocationTargetException;
import java.lang.reflect.Method;
import java.lang.reflect.Modifier;
import java.nio.file.Files;
import java.nio.file.Path;
import java.util.ArrayList;
import java.util.List;
import java.util.Set;
import java.util.TreeSet;
import java.util.regex.Matcher;
import java.util.regex.Pattern;

/**
 * README.md tells the truth: its runs of calls answer what stands behind them, it tells every call
 * of the face, and the sentence of the document that binds whoever uses the class.
 */
public final class ReadmeTest {
    private static final String BINDS_THE_USER = "An object is used for at most 512 calls after it "
            + "has been made; what later calls answer is free.";
    private static final Pattern NEW_OBJECT =
            Pattern.compile("ChangeSync x = new ChangeSync\\((-?\\d+), (-?\\d+)\\);  // .+");
    private static final Pattern CALL =
            Pattern.compile("x\\.(\\w+)\\(([^)]*)\\); +// (throws \\w+|true|false|-?\\d+)(: .+)?");
    private static final Pattern TABLE_ROW = Pattern.compile("\\| `(\\w+)\\([^)]*\\)` \\|.*");

    private static final Checks checks = new Checks();

    public static void main(String[] args) throws IOException, ReflectiveOperationException {
        List<String> readme = Files.readAllLines(Path.of("README.md"));
        tellsWhatBindsTheUser(readme);
        runsAnswerAsTold(readme);
        tellsEveryCallOnce(readme);
        checks.end();
    }

    private static void tellsWhatBindsTheUser(List<String> readme) {
        String text = String.join(" ", readme).replaceAll("\\s+", " ");
        checks.due("README.md tells: " + BINDS_THE_USER, text.contains(BINDS_THE_USER), true);
    }

    private static void runsAnswerAsTold(List<String> readme) throws ReflectiveOperationException {
        Set<String> called = new TreeSet<>();
        for (List<String> run : runs(readme)) {
            Matcher made = NEW_OBJECT.matcher(run.get(0));
            checks.due("a run begins with a new object: " + run.get(0), made.matches(), true);
            ChangeSync x = new ChangeSync(Integer.parseInt(made.group(1)),
                    Integer.parseInt(made.group(2)));
            for (String line : run.subList(1, run.size())) {
                called.add(answersAsTold(x, line));
            }
        }
        checks.due("the calls in the runs of README.md", called.toString(), face().toString());
    }

    /** The Java blocks of README.md, line by line. */
    private static List<List<String>> runs(List<String> readme) {
        List<List<String>> runs = new ArrayList<>();
        boolean inRun = false;
        for (String line : readme) {
            if (line.equals("```java")) {
                inRun = true;
                runs.add(new ArrayList<>());
            } else if (line.equals("```")) {
                inRun = false;
            } else if (inRun) {
                runs.get(runs.size() - 1).add(line);
            }
        }
        return runs;
    }

    /** The name of the method that the line calls. */
    private static String answersAsTold(ChangeSync x, String line)
            throws ReflectiveOperationException {
        Matcher call = CALL.matcher(line);
        if (!call.matches()) {
            checks.due("a line of a run in README.md", line, "a call and its answer");
            return line;
        }
        String[] words = call.group(2).split(", ");
        Object[] arguments = new Object[words.length];
        Class<?>[] types = new Class<?>[words.length];
        for (int k = 0; k < words.length; k++) {
            boolean isNumber = words[k].matches("-?\\d+");
            arguments[k] = isNumber ? (Object) Integer.valueOf(words[k]) : Boolean.valueOf(words[k]);
            types[k] = isNumber ? int.class : boolean.class;
        }
        Method method = ChangeSync.class.getMethod(call.group(1), types);
        checks.due(line, outcome(x, method, arguments), call.group(3));
        return method.getName();
    }

    private static String outcome(ChangeSync x, Method method, Object[] arguments)
            throws IllegalAccessException {
        try {
            return String.valueOf(method.invoke(x, arguments));
        } catch (InvocationTargetException e) {
            return "throws " + e.getCause().getClass().getSimpleName();
        }
    }

    private static void tellsEveryCallOnce(List<String> readme) {
        List<String> told = new ArrayList<>();
        for (String line : readme) {
            Matcher row = TABLE_ROW.matcher(line);
            if (row.matches()) {
                told.add(row.group(1));
            }
        }
        told.sort(null);
        checks.due("the calls in the tables of README.md", told.toString(), face().toString());
    }

    private static Set<String> face() {
        Set<String> names = new TreeSet<>();
        for (Method method : ChangeSync.class.getDeclaredMethods()) {
            if (Modifier.isPublic(method.getModifiers())) {
                names.add(method.getName());
            }
        }
        return names;
    }
}
