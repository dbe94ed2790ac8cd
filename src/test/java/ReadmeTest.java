import java.io.IOException;
import java.lang.reflect.InvocationTargetException;
import java.lang.reflect.Method;
import java.lang.reflect.Modifier;
import java.nio.file.Files;
import java.nio.file.Path;
import java.util.Set;
import java.util.TreeSet;
import java.util.regex.Matcher;
import java.util.regex.Pattern;

/** The run of calls in README.md answers what is written behind it, and has each public method. */
public final class ReadmeTest {
    private static final Pattern ROW = Pattern.compile("mill\\.(\\w+)\\((.*)\\); +// ([^:]+)(:.*)?");

    private static final Check check = new Check();

    public static void main(String[] args) throws IOException, IllegalAccessException {
        ClauseMill mill = new ClauseMill();
        Set<String> called = new TreeSet<>();
        for (String line : Files.readAllLines(Path.of("README.md"))) {
            if (line.startsWith("mill.")) {
                Matcher row = ROW.matcher(line);
                check.due("a call with its answer: " + line, row.matches(), true);
                if (row.matches()) {
                    called.add(row.group(1));
                    check.due(line, answer(mill, row.group(1), row.group(2)), written(row.group(3)));
                }
            }
        }
        check.due("the methods in the run", called, publicMethods());
        check.end();
    }

    private static String written(String answer) {
        return answer.equals("NONE") ? String.valueOf(ClauseMill.NONE) : answer;
    }

    private static Set<String> publicMethods() {
        Set<String> names = new TreeSet<>();
        for (Method m : ClauseMill.class.getDeclaredMethods()) {
            if (Modifier.isPublic(m.getModifiers())) {
                names.add(m.getName());
            }
        }
        return names;
    }

    private static String answer(ClauseMill mill, String name, String arguments) throws IllegalAccessException {
        for (Method m : ClauseMill.class.getDeclaredMethods()) {
            if (Modifier.isPublic(m.getModifiers()) && m.getName().equals(name)) {
                try {
                    return String.valueOf(m.invoke(mill, values(arguments)));
                } catch (InvocationTargetException e) {
                    return "throws " + e.getCause().getClass().getSimpleName();
                }
            }
        }
        return "no such method";
    }

    private static Object[] values(String arguments) {
        String[] words = arguments.isEmpty() ? new String[0] : arguments.split(", ");
        Object[] values = new Object[words.length];
        for (int i = 0; i < words.length; i++) {
            boolean isTruth = words[i].equals("true") || words[i].equals("false");
            values[i] = isTruth ? (Object) Boolean.valueOf(words[i]) : (Object) Integer.valueOf(words[i]);
        }
        return values;
    }
}
