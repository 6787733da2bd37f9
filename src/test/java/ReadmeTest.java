import java.io.IOException;
import java.lang.reflect.Method;
import java.nio.file.Files;
import java.nio.file.Path;
import java.util.regex.Matcher;
import java.util.regex.Pattern;

/** The example of README.md: its text is a well, and each call printed there answers what its comment says. */
public final class ReadmeTest {
    private static final Checks t = new Checks();
    private static final Pattern TEXT = Pattern.compile("String text = (.*?);\\s*WellVoice x", Pattern.DOTALL);
    private static final Pattern LITERAL = Pattern.compile("\"([^\"]*)\"");
    private static final Pattern CALL = Pattern.compile("println\\(x\\.(\\w+)\\(([^)]*)\\)\\);\\s*// (-?\\w+)");

    public static void main(String[] args) throws IOException, ReflectiveOperationException {
        String readme = Files.readString(Path.of("README.md"));
        WellVoice x = new WellVoice();
        t.due("the example's well", Checks.tell(x, textIn(readme)) > 0, true);
        Matcher calls = CALL.matcher(readme);
        int found = 0;
        while (calls.find()) {
            found++;
            Object got = answer(x, calls.group(1), calls.group(2));
            t.due(calls.group() + " answered " + got, got.toString().equals(calls.group(3)), true);
        }
        t.due("calls in the example", found, 15);
        everyCallIsNamed(readme);
        t.finish("ReadmeTest");
    }

    private static String textIn(String readme) {
        StringBuilder text = new StringBuilder();
        Matcher all = TEXT.matcher(readme);
        Matcher literal = LITERAL.matcher(all.find() ? all.group(1) : "");
        while (literal.find()) {
            text.append(literal.group(1));
        }
        return text.toString();
    }

    private static Object answer(WellVoice x, String name, String told) throws ReflectiveOperationException {
        for (Method m : WellVoice.class.getMethods()) {
            if (m.getName().equals(name) && m.getDeclaringClass() == WellVoice.class) {
                String[] words = told.isEmpty() ? new String[0] : told.split(", ");
                Object[] values = new Object[words.length];
                for (int i = 0; i < words.length; i++) {
                    values[i] = m.getParameterTypes()[i] == boolean.class ? (Object) Boolean.valueOf(words[i])
                        : (Object) Integer.valueOf(words[i]);
                }
                return m.invoke(x, values);
            }
        }
        return "no such call";
    }

    private static void everyCallIsNamed(String readme) {
        for (Method m : WellVoice.class.getDeclaredMethods()) {
            if (java.lang.reflect.Modifier.isPublic(m.getModifiers())) {
                t.due("README.md names " + m.getName(), readme.contains("`" + m.getName() + "`"), true);
            }
        }
    }
}
