import java.lang.reflect.Method;
import java.nio.file.Files;
import java.nio.file.Path;
import java.util.regex.Matcher;
import java.util.regex.Pattern;

/** Makes the calls that README.md shows, and holds their answers against those that it tells. */
public final class ReadmeTest {
    private static final Pattern NEW = Pattern.compile("GlulxModes x = new GlulxModes\\(\\);");
    private static final Pattern CALL = Pattern.compile("x\\.(\\w+)\\((.*?)\\); +// (-?\\d+): .*");

    public static void main(String[] args) throws Exception {
        Bench b = new Bench();
        GlulxModes x = null;
        boolean inside = false;
        for (String line : Files.readAllLines(Path.of("README.md"))) {
            if (line.startsWith("```")) {
                inside = line.equals("```java");
                x = null;
            } else if (inside && NEW.matcher(line).matches()) {
                x = new GlulxModes();
            } else if (inside) {
                ask(b, x, line);
            }
        }
        b.end();
    }

    private static void ask(Bench b, GlulxModes x, String line) throws Exception {
        Matcher call = CALL.matcher(line);
        boolean isCall = x != null && call.matches();
        b.due("a call with its answer: " + line, isCall ? 1 : 0, 1);
        if (isCall) {
            int got = made(x, call.group(1), call.group(2));
            b.due(line, got, Integer.parseInt(call.group(3)));
        }
    }

    private static int made(GlulxModes x, String name, String list) throws Exception {
        String[] texts = list.isEmpty() ? new String[0] : list.split(", *");
        for (Method method : GlulxModes.class.getMethods()) {
            if (method.getName().equals(name) && method.getParameterCount() == texts.length) {
                Object[] values = new Object[texts.length];
                for (int k = 0; k < texts.length; k++) {
                    long v = Long.decode(texts[k].replace("L", ""));
                    values[k] = method.getParameterTypes()[k] == long.class ? (Object) v : (Object) (int) v;
                }
                return (Integer) method.invoke(x, values);
            }
        }
        throw new IllegalArgumentException("no call " + name + "(" + list + ")");
    }
}
