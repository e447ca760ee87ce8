import java.lang.reflect.Method;
import java.nio.file.Files;
import java.nio.file.Path;
import java.util.HashSet;
import java.util.Set;
import java.util.regex.Matcher;
import java.util.regex.Pattern;

/** The example of README.md, line by line: each call answers what stands behind it; it is run from the project's directory. */
public final class ReadmeTest {
    private static final Pattern NEW = Pattern.compile("SwapCalls x = new SwapCalls\\(\\);");
    private static final Pattern TEXT = Pattern.compile("for \\(char sign : \"([^\"]*)\"\\.toCharArray\\(\\)\\) x\\.say\\((\\d), sign\\);.*");
    private static final Pattern CALL = Pattern.compile("x\\.(\\w+)\\(([-\\d, ]*)\\);\\s*// (-?\\d+)(:.*)?");

    private static int wrong = 0;

    public static void main(String[] args) throws Exception {
        String readme = Files.readString(Path.of("README.md"));
        runExample(readme);
        namesEachMethod(readme);
        System.out.println(wrong == 0 ? "readme: all answers are as due" : wrong + " lines are not as due");
        if (wrong != 0) System.exit(1);
    }

    private static void fault(String what) {
        wrong++;
        System.out.println(what);
    }

    private static void runExample(String readme) throws Exception {
        Matcher example = Pattern.compile("(?s)```java\n(.*?)```").matcher(readme);
        if (!example.find()) {
            fault("there is no example");
            return;
        }
        SwapCalls x = null;
        for (String line : example.group(1).split("\n")) {
            if (NEW.matcher(line).matches()) x = new SwapCalls();
            else runLine(x, line);
        }
    }

    private static void runLine(SwapCalls x, String line) throws Exception {
        Matcher text = TEXT.matcher(line);
        Matcher call = CALL.matcher(line);
        if (text.matches()) {
            for (char sign : text.group(1).toCharArray()) x.say(Integer.parseInt(text.group(2)), sign);
        } else if (call.matches()) {
            int got = answer(x, call.group(1), call.group(2));
            if (got != Integer.parseInt(call.group(3))) fault(line + " | answered " + got);
        } else {
            fault("a line that can not be read: " + line);
        }
    }

    private static int answer(SwapCalls x, String name, String told) throws Exception {
        String[] parts = told.isBlank() ? new String[0] : told.split(", ");
        Class<?>[] types = new Class<?>[parts.length];
        Object[] numbers = new Object[parts.length];
        for (int i = 0; i < parts.length; i++) {
            types[i] = int.class;
            numbers[i] = Integer.parseInt(parts[i]);
        }
        return (Integer) SwapCalls.class.getMethod(name, types).invoke(x, numbers);
    }

    private static void namesEachMethod(String readme) {
        Set<String> names = new HashSet<>();
        for (Method method : SwapCalls.class.getDeclaredMethods()) {
            if (java.lang.reflect.Modifier.isPublic(method.getModifiers())) names.add(method.getName());
        }
        if (names.size() != 18) fault("the face has " + names.size() + " methods");
        for (String name : names) if (!readme.contains("`" + name + "`")) fault("README.md does not name " + name);
    }
}
