import java.io.IOException;
import java.lang.reflect.InvocationTargetException;
import java.lang.reflect.Method;
import java.nio.file.Files;
import java.nio.file.Path;
import java.util.regex.Matcher;
import java.util.regex.Pattern;

/** The calls that README.md shows answer what it says behind them. */
public final class ReadmeTest {
    private static final Checks CHECKS = new Checks("ReadmeTest");
    private static final Pattern CALL = Pattern.compile("x\\.(\\w+)\\((.*)\\); +// (throws \\w+|-?\\d+)(:.*)?");
    private static final String BEGIN = "HallSheets x = new HallSheets();";
    private static HallSheets x = new HallSheets();

    private ReadmeTest() {
    }

    public static void main(String[] args) throws IOException, IllegalAccessException {
        boolean isCode = false;
        int shown = 0;
        for (String line : Files.readAllLines(Path.of("README.md"))) {
            if (line.startsWith("```")) {
                isCode = line.equals("```java");
            } else if (line.equals(BEGIN)) {
                x = new HallSheets();
            } else if (isCode && !line.isEmpty()) {
                show(line);
                shown++;
            }
        }
        CHECKS.part("README.md");
        CHECKS.holds("calls are shown, and no more than an object has", shown > 20 && shown <= 512);
        CHECKS.end();
    }

    private static void show(String line) throws IllegalAccessException {
        CHECKS.part(line);
        Matcher call = CALL.matcher(line);
        boolean isCall = call.matches();
        CHECKS.holds("a call and its answer", isCall);
        if (!isCall) {
            return;
        }
        String answer = answerOf(call.group(1), call.group(2).split(", "));
        CHECKS.holds("the answer, which is " + answer, answer.equals(call.group(3)));
    }

    private static String answerOf(String name, String[] told) throws IllegalAccessException {
        Method method = named(name);
        Class<?>[] types = method.getParameterTypes();
        Object[] arguments = new Object[types.length];
        for (int i = 0; i < types.length; i++) {
            arguments[i] = types[i] == boolean.class ? (Object) Boolean.valueOf(told[i]) : Integer.valueOf(number(told[i]));
        }
        try {
            return method.invoke(x, arguments).toString();
        } catch (InvocationTargetException thrown) {
            return "throws " + thrown.getCause().getClass().getSimpleName();
        }
    }

    private static int number(String told) {
        return told.startsWith("'") ? told.charAt(1) : Integer.parseInt(told);
    }

    private static Method named(String name) {
        for (Method method : HallSheets.class.getMethods()) {
            if (method.getName().equals(name)) {
                return method;
            }
        }
        throw new IllegalArgumentException("README.md shows " + name);
    }
}
