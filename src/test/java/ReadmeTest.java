import java.io.IOException;
import java.lang.reflect.InvocationTargetException;
import java.lang.reflect.Method;
import java.nio.file.Files;
import java.nio.file.Path;
import java.util.regex.Matcher;
import java.util.regex.Pattern;

/** The run of calls that README.md shows answers what README.md says; the project's folder is the one to run it in. */
public final class ReadmeTest extends Check {
    private static final Pattern CALL = Pattern.compile("target\\.(\\w+)\\((.*)\\); +// (-?\\d+)\\b.*");
    private static final int FEWEST_CALLS = 10;

    public static void main(String[] args) throws IOException, ReflectiveOperationException {
        test("the run of README.md");
        CrackTarget target = new CrackTarget();
        int calls = 0;
        for (String line : Files.readAllLines(Path.of("README.md"))) {
            if (line.startsWith("target.")) {
                play(target, line);
                calls++;
            }
        }
        due("a run to be played", 1, calls >= FEWEST_CALLS ? 1 : 0);
        end();
    }

    private static void play(CrackTarget target, String line) throws IllegalAccessException, InvocationTargetException {
        Matcher call = CALL.matcher(line);
        if (!call.matches()) {
            due(line, "a call and its answer", "none");
            return;
        }
        String[] given = call.group(2).isEmpty() ? new String[0] : call.group(2).split(", ");
        Method method = method(call.group(1), given.length);
        Object[] arguments = new Object[given.length];
        for (int i = 0; i < given.length; i++) {
            long value = number(given[i]);
            arguments[i] = method.getParameterTypes()[i] == long.class ? (Object) value : (Object) Math.toIntExact(value);
        }
        due(call.group(1) + "(" + call.group(2) + ")", Long.parseLong(call.group(3)), (Integer) method.invoke(target, arguments));
    }

    private static Method method(String name, int parameters) {
        for (Method method : CrackTarget.class.getMethods()) {
            if (method.getName().equals(name) && method.getParameterCount() == parameters) {
                return method;
            }
        }
        throw new IllegalArgumentException("README.md calls " + name + " with " + parameters + " arguments");
    }

    private static long number(String argument) throws IllegalAccessException {
        if (!argument.startsWith("CrackTarget.")) {
            return Long.decode(argument.replace("L", ""));
        }
        try {
            return CrackTarget.class.getField(argument.substring("CrackTarget.".length())).getInt(null);
        } catch (NoSuchFieldException e) {
            throw new IllegalArgumentException("README.md names " + argument, e);
        }
    }
}
