import java.io.IOException;
import java.lang.reflect.Method;
import java.nio.file.Files;
import java.nio.file.Path;
import java.util.regex.Matcher;
import java.util.regex.Pattern;

/** That README.md tells of every call, and that the calls of its example answer what stands behind them. */
public final class ReadmeTest {
    private static final Pattern TOWN = Pattern.compile("String town = \"([^\"]*)\"");
    private static final Pattern CALL = Pattern.compile("(?m)^    x\\.(\\w+)\\((.*?)\\); +// (-?\\d+)");
    private static final Checks is = new Checks();

    /** The first word is the path of the class, as .ci/run tells it; without it, the project is here. */
    public static void main(String[] args) throws IOException, ReflectiveOperationException {
        Path page = args.length == 0 ? Path.of("README.md") : Path.of(args[0], "../../../../README.md").normalize();
        String readme = Files.readString(page);
        everyCallIsTold(readme);
        exampleHolds(readme);
        is.holds("how to run the tests", readme.contains("    .ci/run\n"));
        is.end();
    }

    private static void everyCallIsTold(String readme) {
        for (Method method : SpeltByFriends.class.getDeclaredMethods()) {
            String name = method.getName();
            is.holds("README tells of " + name, readme.contains("`" + name + "`")
                || (method.getModifiers() & java.lang.reflect.Modifier.PUBLIC) == 0);
        }
    }

    private static void exampleHolds(String readme) throws ReflectiveOperationException {
        Matcher town = TOWN.matcher(readme);
        is.holds("README has a town", town.find());
        SpeltByFriends x = new SpeltByFriends();
        Checks.write(x, town.group(1));
        int calls = 0;
        Matcher call = CALL.matcher(readme);
        while (call.find()) {
            String told = call.group(1) + "(" + call.group(2) + ")";
            is.due("README: " + told, answer(x, call.group(1), call.group(2)), Long.parseLong(call.group(3)));
            calls++;
        }
        is.holds("README has an example of some calls", calls >= 20);
    }

    private static long answer(SpeltByFriends x, String name, String list) throws ReflectiveOperationException {
        String[] words = list.isEmpty() ? new String[0] : list.split(", ");
        Class<?>[] types = new Class<?>[words.length];
        Object[] values = new Object[words.length];
        for (int i = 0; i < words.length; i++) {
            boolean isNumber = words[i].matches("-?\\d+");
            types[i] = isNumber ? int.class : boolean.class;
            values[i] = isNumber ? (Object) Integer.valueOf(words[i]) : (Object) Boolean.valueOf(words[i]);
        }
        return ((Number) SpeltByFriends.class.getMethod(name, types).invoke(x, values)).longValue();
    }
}
