import java.io.File;
import java.io.IOException;
import java.lang.reflect.Method;
import java.nio.file.Files;
import java.nio.file.Path;
import java.util.regex.Matcher;
import java.util.regex.Pattern;

/** README.md says nothing that is not so: its calls answer what stands behind them, and it names every test there is. */
public final class ReadmeTest {
    private static final Pattern CALL = Pattern.compile("x\\.(\\w+)\\((.*)\\); +// (-?\\d+|true|false)\\b.*");

    public static void main(String[] args) throws IOException, ReflectiveOperationException {
        String readme = Files.readString(Path.of("README.md"));
        callsAnswer(readme);
        testsAreNamed(readme);
        Due.finish("ReadmeTest");
    }

    private static void callsAnswer(String readme) throws ReflectiveOperationException {
        TownExchange x = new TownExchange();
        int calls = 0;
        for (String line : readme.split("\n")) {
            if (line.startsWith("x.")) {
                Matcher call = CALL.matcher(line);
                Due.is("an answer stands behind " + line, call.matches(), true);
                if (call.matches()) {
                    Due.is(line, answer(x, call.group(1), call.group(2)), call.group(3));
                    calls++;
                }
            }
        }
        Due.is("README.md has calls", calls > 20, true);
    }

    private static String answer(TownExchange x, String name, String list) throws ReflectiveOperationException {
        String[] given = list.isEmpty() ? new String[0] : list.split(", *");
        Object[] args = new Object[given.length];
        for (Method method : TownExchange.class.getDeclaredMethods()) {
            Class<?>[] types = method.getParameterTypes();
            if (method.getName().equals(name) && types.length == args.length) {
                for (int i = 0; i < args.length; i++) {
                    args[i] = read(types[i], given[i]);
                }
                return String.valueOf(method.invoke(x, args));
            }
        }
        return "no such method";
    }

    private static Object read(Class<?> type, String text) {
        if (type == boolean.class) {
            return Boolean.valueOf(text);
        }
        long number = Long.decode(text.replace("L", ""));
        return type == int.class ? (Object) (int) number : (Object) number;
    }

    private static void testsAreNamed(String readme) {
        String[] files = new File("src/test/java").list();
        Due.is("there are tests", files != null, true);
        for (String file : files == null ? new String[0] : files) {
            String name = file.replace(".java", "");
            boolean told = !name.endsWith("Test") || readme.contains("\n| " + name + " |");
            Due.is(name + " is told in README.md", told, true);
        }
        for (String line : readme.split("\n")) {
            if (line.matches("\\| \\w+Test \\|.*")) {
                String name = line.split(" ")[1];
                Due.is(name + " is there", new File("src/test/java/" + name + ".java").isFile(), true);
            }
        }
    }
}
