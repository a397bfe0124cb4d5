import java.io.IOException;
import java.lang.reflect.InvocationTargetException;
import java.lang.reflect.Method;
import java.lang.reflect.Modifier;
import java.nio.file.Files;
import java.nio.file.Path;
import java.util.TreeSet;
import java.util.regex.Matcher;
import java.util.regex.Pattern;

/** What README.md says of the calls holds: its example answers so, and its table has each call once. */
public final class ReadmeTest {
    private static final Pattern TOLD = Pattern.compile("tell\\(x, \"(.*)\"\\);");
    private static final Pattern CALLED = Pattern.compile("x\\.(\\w+)\\((.*)\\); +// ([-\\w]+).*");

    public static void main(String[] args) throws IOException, ReflectiveOperationException {
        String readme = Files.readString(Path.of("README.md"));
        example(readme);
        table(readme);
        Due.end("ReadmeTest");
    }

    private static void example(String readme) throws ReflectiveOperationException {
        SnowNames x = new SnowNames();
        int calls = 0;
        for (String line : readme.split("\n")) {
            Matcher told = TOLD.matcher(line);
            Matcher called = CALLED.matcher(line);
            if (told.matches()) {
                Due.tape(x, told.group(1));
            } else if (called.matches()) {
                calls++;
                Due.is(line, answer(x, called.group(1), called.group(2)), called.group(3));
            }
        }
        Due.is("there is an example", calls > 10, true);
    }

    private static String answer(SnowNames x, String name, String told) throws ReflectiveOperationException {
        String[] texts = told.isEmpty() ? new String[0] : told.split(", ");
        Method call = callOf(name);
        Object[] args = new Object[texts.length];
        for (int i = 0; i < args.length; i++) {
            boolean truth = call.getParameterTypes()[i] == boolean.class;
            args[i] = truth ? (Object) Boolean.valueOf(texts[i]) : (Object) Integer.valueOf(texts[i]);
        }
        try {
            return String.valueOf(call.invoke(x, args));
        } catch (InvocationTargetException e) {
            return e.getCause().getClass().getSimpleName();
        }
    }

    private static Method callOf(String name) throws NoSuchMethodException {
        for (Method m : SnowNames.class.getDeclaredMethods()) {
            if (m.getName().equals(name)) {
                return m;
            }
        }
        throw new NoSuchMethodException(name);
    }

    private static void table(String readme) {
        TreeSet<String> due = new TreeSet<>();
        for (Method m : SnowNames.class.getDeclaredMethods()) {
            if (Modifier.isPublic(m.getModifiers())) {
                due.add(m.getName());
            }
        }
        TreeSet<String> got = new TreeSet<>();
        for (String line : readme.split("\n")) {
            Matcher m = Pattern.compile("`(\\w+)`").matcher(line);
            while (line.startsWith("| ") && m.find()) {
                Due.is("once in the table: " + m.group(1), got.add(m.group(1)), true);
            }
        }
        Due.is("calls in the table", got, due);
    }
}
