import java.io.IOException;
import java.lang.reflect.Method;
import java.lang.reflect.Modifier;
import java.nio.file.Files;
import java.nio.file.Path;
import java.util.List;
import java.util.regex.Matcher;
import java.util.regex.Pattern;

/** The examples in README.md answer what stands behind them, and name every call of the face. */
public final class LetterNetReadme {
    private static final Pattern NEW = Pattern.compile("LetterNet net = new LetterNet\\(\\);.*");
    private static final Pattern CALL = Pattern.compile(
            "net\\.(\\w+)\\(([^)]*)\\);\\s+// (-?\\d+(?:\\.\\d+)?)(?:,.*)?");
    private static final Pattern TYPED = Pattern.compile(
            "for \\(char sign : \"([^\"]*)\"\\.toCharArray\\(\\)\\) net\\.write\\(sign\\);");
    private static int wrong = 0;
    private static int calls = 0;
    private static LetterNet net = new LetterNet();

    private static void complain(String what) {
        wrong++;
        System.out.println(what);
    }

    private static void follow(String line) throws ReflectiveOperationException {
        Matcher call = CALL.matcher(line);
        Matcher typed = TYPED.matcher(line);
        if (NEW.matcher(line).matches()) {
            net = new LetterNet();
        } else if (typed.matches()) {
            for (char sign : typed.group(1).toCharArray()) {
                net.write(sign);
            }
        } else if (call.matches()) {
            float got = answerOf(call.group(1), call.group(2));
            calls++;
            if (got != Float.parseFloat(call.group(3))) {
                complain("README.md: " + line + " answered " + got);
            }
        } else {
            complain("README.md: no example: " + line);
        }
    }

    private static float answerOf(String name, String arguments)
            throws ReflectiveOperationException {
        String[] words = arguments.isBlank() ? new String[0] : arguments.split(",");
        Class<?>[] types = new Class<?>[words.length];
        Object[] values = new Object[words.length];
        for (int i = 0; i < words.length; i++) {
            types[i] = int.class;
            values[i] = Integer.parseInt(words[i].trim());
        }
        return ((Number) LetterNet.class.getMethod(name, types).invoke(net, values)).floatValue();
    }

    private static void allCallsAreNamed(String page) {
        for (Method method : LetterNet.class.getDeclaredMethods()) {
            boolean isPublic = Modifier.isPublic(method.getModifiers());
            if (isPublic && !page.contains("`" + method.getName() + "`")) {
                complain("README.md does not name " + method.getName());
            }
        }
    }

    public static void main(String[] args) throws IOException, ReflectiveOperationException {
        List<String> lines = Files.readAllLines(Path.of("README.md"));
        boolean inside = false;
        for (String line : lines) {
            if (line.startsWith("```")) {
                inside = line.equals("```java");
            } else if (inside && !line.isBlank()) {
                follow(line);
            }
        }
        if (calls == 0) {
            complain("README.md has no examples");
        }
        allCallsAreNamed(String.join("\n", lines));
        System.out.println(wrong == 0 ? "the examples hold" : wrong + " examples are wrong");
        if (wrong != 0) {
            System.exit(1);
        }
    }
}
