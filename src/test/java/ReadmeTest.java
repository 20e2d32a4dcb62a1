import java.lang.reflect.InvocationTargetException;
import java.lang.reflect.Method;
import java.nio.file.Files;
import java.nio.file.Path;
import java.util.Set;
import java.util.TreeSet;
import java.util.regex.Matcher;
import java.util.regex.Pattern;

/** That README.md holds: its calls, on one new object, answer what stands behind them; every call is named. */
public final class ReadmeTest {
    private static final Pattern ROW = Pattern.compile("x\\.([a-zA-Z]+)\\((.*)\\); +// ([-A-Za-z0-9]+): .*");
    private static final int LEAST_ROWS = 25;

    public static void main(String[] args) throws Exception {
        String text = Files.readString(Path.of("README.md"));
        RewrittenWords x = new RewrittenWords();
        int rows = 0;
        for (String line : text.split("\n")) {
            if (line.startsWith("x.")) {
                Matcher row = ROW.matcher(line);
                Check.due("a call and its answer: " + line, true, row.matches());
                if (row.matches()) {
                    Check.due(line, row.group(3), answer(x, row.group(1), row.group(2)));
                    rows++;
                }
            }
        }
        Check.due("calls are found", true, rows >= LEAST_ROWS);
        everyCallIsNamed(text);
        Check.due("the command that runs the tests", true, text.contains("\n    bash .ci/run\n"));
        Check.end("ReadmeTest");
    }

    private static void everyCallIsNamed(String text) {
        Set<String> missing = new TreeSet<>();
        for (Method method : RewrittenWords.class.getDeclaredMethods()) {
            if (java.lang.reflect.Modifier.isPublic(method.getModifiers())
                    && !text.contains("`" + method.getName()) && !text.contains("x." + method.getName() + "(")) {
                missing.add(method.getName());
            }
        }
        Check.due("calls that README.md does not name", "[]", missing.toString());
    }

    /** An exception is told by its class's simple name. */
    private static String answer(RewrittenWords x, String name, String list) throws Exception {
        String[] told = list.isEmpty() ? new String[0] : list.split(", ");
        for (Method method : RewrittenWords.class.getMethods()) {
            if (method.getName().equals(name) && method.getParameterCount() == told.length) {
                Object[] values = new Object[told.length];
                for (int k = 0; k < told.length; k++) {
                    boolean isNumber = method.getParameterTypes()[k] == int.class;
                    values[k] = isNumber ? (Object) Integer.decode(told[k]) : (Object) Boolean.valueOf(told[k]);
                }
                try {
                    return String.valueOf(method.invoke(x, values));
                } catch (InvocationTargetException e) {
                    return e.getCause().getClass().getSimpleName();
                }
            }
        }
        return "no such call";
    }
}
