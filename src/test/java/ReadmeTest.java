import java.lang.reflect.Method;
import java.lang.reflect.Modifier;
import java.nio.file.Files;
import java.nio.file.Path;
import java.util.HashMap;
import java.util.Map;
import java.util.regex.Matcher;
import java.util.regex.Pattern;

/** README.md: its examples answer what stands behind them, and it names each call of the face. */
public final class ReadmeTest extends HelperCheck {
    private static final Path README = Path.of("README.md");
    private static final Pattern CALL = Pattern.compile("x\\.(\\w+)\\((.*?)\\);\\s+// (-?\\d+): .*");
    private static final Pattern TEXT = Pattern.compile("tellText\\(x, \"(.*)\"\\);\\s+// (-?\\d+): .*");
    private static final Map<String, Method> FACE = new HashMap<>();

    public static void main(String[] args) throws Exception {
        for (Method method : TraitLines.class.getDeclaredMethods()) {
            if (Modifier.isPublic(method.getModifiers())) {
                FACE.put(method.getName(), method);
            }
        }
        String page = Files.readString(README);
        for (String name : FACE.keySet()) {
            holds(name + " is named in the table of calls", page.contains("`" + name + "`"));
        }
        TraitLines x = new TraitLines();
        int lines = 0;
        for (String line : page.split("\n")) {
            if (line.startsWith("x.") || line.startsWith("tellText(")) {
                lines++;
                runLine(x, line);
            }
        }
        holds("there are examples", lines > 0 && made() == lines);
        finish("ReadmeTest, " + lines + " calls");
    }

    private static void runLine(TraitLines x, String line) throws Exception {
        Matcher text = TEXT.matcher(line);
        Matcher call = CALL.matcher(line);
        if (text.matches()) {
            due(line, tellText(x, text.group(1)), Long.parseLong(text.group(2)));
        } else if (call.matches() && FACE.containsKey(call.group(1))) {
            due(line, answer(x, FACE.get(call.group(1)), call.group(2)), Long.parseLong(call.group(3)));
        } else {
            holds("this is a call with its answer: " + line, false);
        }
    }

    private static long answer(TraitLines x, Method method, String numbers) throws Exception {
        String[] parts = numbers.isEmpty() ? new String[0] : numbers.split(", ");
        Object[] arguments = new Object[parts.length];
        for (int k = 0; k < parts.length; k++) {
            arguments[k] = Integer.decode(parts[k]);
        }
        return ((Number) method.invoke(x, arguments)).longValue();
    }
}
