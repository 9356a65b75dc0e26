import java.io.IOException;
import java.lang.reflect.InvocationTargetException;
import java.lang.reflect.Method;
import java.nio.file.Files;
import java.nio.file.Path;
import java.util.regex.Matcher;
import java.util.regex.Pattern;

/** The calls that README.md shows, made one by one: each answers what stands behind it there. */
public final class ReadmeTest {
    private static final Check check = new Check();
    private static final Pattern CALL = Pattern.compile("x\\.(\\w+)\\((.*)\\);\\s*(?:// (-?\\d+)\\b.*|//.*)?");

    public static void main(String[] args) throws IOException, ReflectiveOperationException {
        MailParts x = null;
        int calls = 0;
        for (String line : Files.readAllLines(Path.of("README.md"))) {
            Matcher call = CALL.matcher(line);
            if (line.equals("MailParts x = new MailParts();")) {
                x = new MailParts();
            } else if (call.matches()) {
                Object answer = answer(x, call.group(1), call.group(2));
                boolean told = call.group(3) != null;
                check.due(line, String.valueOf(answer), told ? call.group(3) : "null");
                calls++;
            }
        }
        check.due("some calls are shown", calls > 10 ? 1 : 0, 1);
        check.finish();
    }

    private static Object answer(MailParts x, String name, String arguments)
            throws IllegalAccessException, InvocationTargetException, NoSuchMethodException {
        for (Method method : MailParts.class.getMethods()) {
            if (method.getName().equals(name)) {
                String[] words = arguments.isEmpty() ? new String[0] : arguments.split(", ");
                Object[] values = new Object[words.length];
                for (int i = 0; i < words.length; i++) {
                    boolean yesOrNo = method.getParameterTypes()[i] == boolean.class;
                    values[i] = yesOrNo ? (Object) Boolean.valueOf(words[i]) : (Object) Long.decode(words[i]).intValue();
                }
                return method.invoke(x, values);
            }
        }
        throw new NoSuchMethodException(name);
    }
}
