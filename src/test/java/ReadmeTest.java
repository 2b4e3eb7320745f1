import java.lang.reflect.InvocationTargetException;
import java.lang.reflect.Method;
import java.lang.reflect.Modifier;
import java.nio.file.Files;
import java.nio.file.Path;
import java.util.List;
import java.util.regex.Matcher;
import java.util.regex.Pattern;

/** README.md: its examples are answered as they say, and its face is that of the class. */
public final class ReadmeTest {
    private static final Pattern EXAMPLE = Pattern.compile("x\\.(\\w+)\\((.*)\\); +// (-?\\d+)\\b.*");
    private static final Check check = new Check();

    public static void main(String[] args) throws Exception {
        List<String> lines = Files.readAllLines(Path.of("README.md"));
        face(lines);
        examples(lines);
        check.finish();
    }

    private static void face(List<String> lines) {
        for (Method method : UnreadScript.class.getDeclaredMethods()) {
            if (!Modifier.isPublic(method.getModifiers())) continue;
            String row = "\\| `" + method.getName() + "\\(" + ", \\w+".repeat(method.getParameterCount())
                    .replaceFirst(", ", "") + "\\)` \\|.*";
            check.promise("README, the face");
            check.due("rows of " + method.getName(), lines.stream().filter(l -> l.matches(row)).count(), 1);
        }
    }

    private static void examples(List<String> lines) throws IllegalAccessException {
        UnreadScript x = null;
        boolean inside = false;
        for (int i = 0; i < lines.size(); i++) {
            String line = lines.get(i);
            check.promise("README, line " + (i + 1));
            if (line.startsWith("```")) {
                inside = line.equals("```java");
            } else if (inside && line.equals("UnreadScript x = new UnreadScript();")) {
                x = new UnreadScript();
            } else if (inside) {
                Matcher told = EXAMPLE.matcher(line);
                check.due("an example", told.matches() ? 1 : 0, 1);
                if (told.matches()) check.due(line, answer(x, told.group(1), told.group(2)), Long.parseLong(told.group(3)));
            }
        }
    }

    private static long answer(UnreadScript x, String name, String with) throws IllegalAccessException {
        String[] numbers = with.isEmpty() ? new String[0] : with.split(", ");
        for (Method method : UnreadScript.class.getDeclaredMethods()) {
            if (!method.getName().equals(name) || method.getParameterCount() != numbers.length) continue;
            Object[] args = new Object[numbers.length];
            for (int i = 0; i < args.length; i++) {
                boolean isLong = method.getParameterTypes()[i] == long.class;
                args[i] = isLong ? (Object) Long.decode(numbers[i].replace("L", "")) : (Object) Integer.decode(numbers[i]);
            }
            try {
                return ((Number) method.invoke(x, args)).longValue();
            } catch (InvocationTargetException thrown) {
                return Long.MIN_VALUE;
            }
        }
        return Long.MIN_VALUE;
    }
}
