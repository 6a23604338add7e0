import java.io.IOException;
import java.lang.reflect.Method;
import java.nio.file.Files;
import java.nio.file.Path;
import java.util.regex.Matcher;
import java.util.regex.Pattern;

/** README.md: each call of its example answers what stands behind it. Run from the project's root. */
public final class ReadmeTest {
    private static final Pattern TEXT = Pattern.compile("for \\(char letter : \"(.*)\"\\.toCharArray");
    private static final Pattern CALL = Pattern.compile("(?m)^deeds\\.(\\w+)\\((.*)\\); *// (\\S+)$");

    public static void main(String[] args) throws IOException, ReflectiveOperationException {
        String readme = Files.readString(Path.of("README.md"));
        Matcher text = TEXT.matcher(readme);
        Check.due("README.md has a text", text.find() ? 1 : 0, 1);
        FireworkDeeds deeds = new FireworkDeeds();
        Check.feed(deeds, text.group(1));
        Matcher call = CALL.matcher(readme);
        int calls = 0;
        while (call.find()) {
            calls++;
            Check.due(call.group(), answer(deeds, call.group(1), call.group(2)), number(call.group(3)));
        }
        Check.due("every line that calls has an answer", calls, readme.split("(?m)^deeds\\.", -1).length - 1);
        Check.end();
    }

    private static int answer(FireworkDeeds deeds, String name, String told) throws ReflectiveOperationException {
        String[] parts = told.isEmpty() ? new String[0] : told.split(", ");
        Object[] given = new Object[parts.length];
        Class<?>[] types = new Class<?>[parts.length];
        for (int i = 0; i < parts.length; i++) {
            boolean truth = parts[i].equals("true") || parts[i].equals("false");
            types[i] = truth ? boolean.class : int.class;
            given[i] = truth ? (Object) Boolean.valueOf(parts[i]) : (Object) Integer.valueOf(parts[i]);
        }
        Method method = FireworkDeeds.class.getMethod(name, types);
        return (Integer) method.invoke(deeds, given);
    }

    private static int number(String told) throws ReflectiveOperationException {
        return told.matches("-?\\d+") ? Integer.parseInt(told) : FireworkDeeds.class.getField(told).getInt(null);
    }
}
