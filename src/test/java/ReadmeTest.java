import java.io.IOException;
import java.lang.reflect.InvocationTargetException;
import java.lang.reflect.Method;
import java.lang.reflect.Modifier;
import java.nio.charset.StandardCharsets;
import java.nio.file.Files;
import java.nio.file.Path;
import java.util.Set;
import java.util.TreeSet;
import java.util.regex.Matcher;
import java.util.regex.Pattern;

/** The calls that README.md shows, on one object as they follow one another, answer what stands behind them. */
public final class ReadmeTest {
    private static final Checks C = new Checks("ReadmeTest");
    private static final Pattern CALL = Pattern.compile("x\\.(\\w+)\\(([^)]*)\\); *// (-?\\d+)(:.*)?");
    private static final Pattern QUOTED = Pattern.compile("\"([^\"]*)\"");

    private static final PaperPays X = new PaperPays();
    private static final Set<String> CALLED = new TreeSet<>();

    private ReadmeTest() {
    }

    public static void main(String[] args) throws IOException {
        boolean inCode = false;
        for (String line : Files.readAllLines(Path.of("README.md"), StandardCharsets.UTF_8)) {
            if (line.startsWith("```")) {
                inCode = line.equals("```java");
            } else if (inCode) {
                follow(line.strip());
            }
        }
        everyCallIsShown();
        C.end();
    }

    private static void follow(String line) {
        Matcher call = CALL.matcher(line);
        if (call.matches()) {
            CALLED.add(call.group(1));
            C.due(line, answer(call.group(1), call.group(2)), Long.parseLong(call.group(3)));
            return;
        }
        C.due("a line with an answer that this test can't follow: " + line, line.contains("//") ? 1 : 0, 0);
        Matcher quoted = QUOTED.matcher(line);
        while (quoted.find()) {
            Checks.type(X, quoted.group(1));
        }
    }

    private static long answer(String name, String told) {
        String[] numbers = told.isEmpty() ? new String[0] : told.split(", *");
        Object[] given = new Object[numbers.length];
        try {
            Method method = methodOf(name);
            for (int i = 0; i < numbers.length; i++) {
                long v = Long.decode(numbers[i].replaceAll("L$", ""));
                given[i] = method.getParameterTypes()[i] == long.class ? (Object) v : (Object) (int) v;
            }
            return ((Number) method.invoke(X, given)).longValue();
        } catch (IllegalAccessException | InvocationTargetException e) {
            throw new IllegalStateException(name, e);
        }
    }

    private static Method methodOf(String name) {
        for (Method m : PaperPays.class.getDeclaredMethods()) {
            if (m.getName().equals(name) && Modifier.isPublic(m.getModifiers())) {
                return m;
            }
        }
        throw new IllegalStateException("no such call: " + name);
    }

    private static void everyCallIsShown() {
        for (Method m : PaperPays.class.getDeclaredMethods()) {
            if (Modifier.isPublic(m.getModifiers())) {
                C.due("README.md shows " + m.getName(), CALLED.contains(m.getName()) ? 1 : 0, 1);
            }
        }
    }
}
