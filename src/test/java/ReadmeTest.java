import java.io.IOException;
import java.lang.reflect.InvocationTargetException;
import java.lang.reflect.Method;
import java.lang.reflect.Modifier;
import java.nio.file.Files;
import java.nio.file.Path;
import java.util.TreeSet;
import java.util.regex.Matcher;
import java.util.regex.Pattern;

/** The example of README.md answers what stands beside each of its calls. */
public final class ReadmeTest {
    private static final Pattern CALL = Pattern.compile("k\\.(\\w+)\\((.*)\\); +// ([^:]+): .*");

    public static void main(String[] args) throws IOException {
        BudgetKernel kernel = new BudgetKernel();
        TreeSet<String> called = new TreeSet<>();
        for (String line : Files.readAllLines(Path.of("README.md"))) {
            Matcher call = CALL.matcher(line);
            if (call.matches()) {
                called.add(call.group(1));
                Check.due(line, answer(kernel, call.group(1), call.group(2)), call.group(3));
            } else {
                Check.due("a call of the example without its answer: " + line, line.startsWith("k."), false);
            }
        }
        Check.due("methods that the example calls", called.toString(), face().toString());
        Check.end();
    }

    private static TreeSet<String> face() {
        TreeSet<String> names = new TreeSet<>();
        for (Method method : BudgetKernel.class.getDeclaredMethods()) {
            if (Modifier.isPublic(method.getModifiers())) {
                names.add(method.getName());
            }
        }
        return names;
    }

    private static String answer(BudgetKernel kernel, String name, String list) {
        String[] words = list.isEmpty() ? new String[0] : list.split(", ");
        Object[] values = new Object[words.length];
        for (int i = 0; i < words.length; i++) {
            boolean truth = words[i].equals("true") || words[i].equals("false");
            values[i] = truth ? (Object) Boolean.valueOf(words[i]) : (Object) Integer.valueOf(words[i]);
        }
        for (Method method : BudgetKernel.class.getMethods()) {
            if (method.getName().equals(name) && method.getParameterCount() == values.length) {
                return invoke(kernel, method, values);
            }
        }
        return "no such method";
    }

    private static String invoke(BudgetKernel kernel, Method method, Object[] values) {
        try {
            Object got = method.invoke(kernel, values);
            return method.getReturnType() == void.class ? "nothing" : String.valueOf(got);
        } catch (InvocationTargetException e) {
            return "throws " + e.getCause().getClass().getSimpleName();
        } catch (IllegalAccessException e) {
            return "is hidden";
        }
    }
}
