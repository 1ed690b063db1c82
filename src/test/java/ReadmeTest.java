import java.io.IOException;
import java.lang.reflect.Method;
import java.nio.file.Files;
import java.nio.file.Path;
import java.util.ArrayList;
import java.util.List;
import java.util.Set;
import java.util.TreeSet;
import java.util.regex.Matcher;
import java.util.regex.Pattern;

/** Whether each call that README.md shows answers what stands there behind it, and none is left out. */
public final class ReadmeTest {
    private static final Path README = Path.of("README.md");
    private static final Pattern TEXT = Pattern.compile("say\\(hill, \"([^\"]*)\"\\);.*");
    private static final Pattern CALL = Pattern.compile("hill\\.(\\w+)\\(([^)]*)\\); +// (-?\\d+): .*");
    private static final Due DUE = new Due("ReadmeTest");

    private final HillSlices hill = new HillSlices();
    private final Set<String> shown = new TreeSet<>(Set.of("say", "wipe", "share", "rolls"));

    private ReadmeTest() {
    }

    public static void main(String[] args) throws IOException, ReflectiveOperationException {
        ReadmeTest test = new ReadmeTest();
        for (String line : Files.readAllLines(README)) {
            test.take(line);
        }
        for (Method method : HillSlices.class.getMethods()) {
            if (method.getDeclaringClass() == HillSlices.class) {
                DUE.is(method.getName() + " is shown", test.shown.contains(method.getName()) ? 1 : 0, 1);
            }
        }
        DUE.end();
    }

    private void take(String line) throws ReflectiveOperationException {
        Matcher text = TEXT.matcher(line);
        Matcher call = CALL.matcher(line);
        if (text.matches()) {
            Due.say(hill, text.group(1));
        } else if (call.matches()) {
            shown.add(call.group(1));
            DUE.is(line, answer(call.group(1), call.group(2)), Integer.parseInt(call.group(3)));
        } else if (line.startsWith("hill.")) {
            DUE.is("whether this can be read: " + line, 0, 1);
        }
    }

    private int answer(String name, String arguments) throws ReflectiveOperationException {
        List<Class<?>> types = new ArrayList<>();
        List<Object> values = new ArrayList<>();
        for (String argument : arguments.isEmpty() ? new String[0] : arguments.split(", ")) {
            boolean yesOrNo = argument.equals("true") || argument.equals("false");
            types.add(yesOrNo ? boolean.class : int.class);
            values.add(yesOrNo ? (Object) Boolean.valueOf(argument) : (Object) number(argument));
        }
        Method method = HillSlices.class.getMethod(name, types.toArray(new Class<?>[0]));
        return (Integer) method.invoke(hill, values.toArray());
    }

    private static int number(String text) {
        return text.startsWith("'") ? text.charAt(1) : Integer.parseInt(text);
    }
}
