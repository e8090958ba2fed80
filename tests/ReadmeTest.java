import java.lang.reflect.Method;
import java.nio.file.Files;
import java.nio.file.Path;
import java.util.regex.Matcher;
import java.util.regex.Pattern;

/** The example of README.md: each call answers what stands behind it. */
public final class ReadmeTest {
    private static final Pattern CALL = Pattern.compile("x\\.(\\w+)\\((.*?)\\);\\s+// (-?\\d+)\\b.*");

    public static void main(String[] args) throws Exception {
        String readme = Files.readString(Path.of("README.md"));
        int from = readme.indexOf("```java");
        String[] lines = readme.substring(from, readme.indexOf("```", from + 7)).split("\n");
        FirstWords x = new FirstWords();
        for (int i = 2; i < lines.length; i++) {
            Matcher call = CALL.matcher(lines[i]);
            if (call.matches()) Check.due(lines[i], answer(x, call.group(1), call.group(2)), Integer.parseInt(call.group(3)));
            else Check.holds("a call with its answer: " + lines[i], false);
        }
        Check.holds("the example has calls", lines.length > 2);
        Check.finish();
    }

    private static int answer(FirstWords x, String name, String given) throws Exception {
        String[] told = given.isEmpty() ? new String[0] : given.split(", ");
        for (Method m : FirstWords.class.getMethods()) {
            if (!m.getName().equals(name) || m.getDeclaringClass() != FirstWords.class) continue;
            Object[] values = new Object[told.length];
            for (int i = 0; i < told.length; i++) values[i] = value(told[i], m.getParameterTypes()[i]);
            return (int) m.invoke(x, values);
        }
        throw new IllegalStateException("no call " + name);
    }

    private static Object value(String told, Class<?> type) {
        if (type == boolean.class) return told.equals("true");
        if (type == long.class) return Long.decode(told.substring(0, told.length() - 1));
        return Integer.valueOf(told);
    }
}
