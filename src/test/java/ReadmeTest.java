import java.lang.reflect.Method;
import java.nio.file.Files;
import java.nio.file.Path;
import java.util.regex.Matcher;
import java.util.regex.Pattern;

/** README.md: each call of its example answers the number that stands behind it. */
public final class ReadmeTest {
    private static final Pattern CALL = Pattern.compile("x\\.(\\w+)\\(([^)]*)\\);\\s*// (-?\\d+)\\b.*");

    public static void main(String[] args) throws Exception {
        String readme = Files.readString(Path.of("README.md"));
        Matcher block = Pattern.compile("(?s)```java\n(.*?)```").matcher(readme);
        Due.holds("README.md has an example", block.find());
        FarBoards x = new FarBoards();
        for (String line : block.group(1).split("\n")) {
            if (line.startsWith("FarBoards x = new FarBoards();")) continue;
            Matcher call = CALL.matcher(line);
            boolean read = call.matches();
            Due.holds("README.md: a call and its answer in '" + line + "'", read);
            if (read) Due.due("README.md: " + line, answer(x, call.group(1), call.group(2)), Long.parseLong(call.group(3)));
        }
        commands(readme);
        Due.end();
    }

    private static long answer(FarBoards x, String name, String numbers) throws Exception {
        String[] parts = numbers.isEmpty() ? new String[0] : numbers.split(", ");
        for (Method method : FarBoards.class.getDeclaredMethods()) {
            if (!method.getName().equals(name) || method.getParameterCount() != parts.length) continue;
            Object[] given = new Object[parts.length];
            for (int i = 0; i < parts.length; i++) {
                long v = Long.decode(parts[i].replace("L", ""));
                given[i] = method.getParameterTypes()[i] == long.class ? (Object) v : (Object) (int) v;
            }
            return (Integer) method.invoke(x, given);
        }
        throw new IllegalArgumentException("no call " + name + "(" + numbers + ")");
    }

    /** Every call of the face stands in README.md, and how to run the tests. */
    private static void commands(String readme) {
        for (Method method : FarBoards.class.getDeclaredMethods()) {
            if (!java.lang.reflect.Modifier.isPublic(method.getModifiers())) continue;
            Due.holds("README.md tells of " + method.getName(), readme.contains("`" + method.getName() + "`"));
        }
        Due.holds("README.md tells how to run the tests", readme.contains("\n.ci/run\n"));
    }
}
