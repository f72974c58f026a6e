import java.lang.reflect.Method;
import java.nio.charset.StandardCharsets;
import java.nio.file.Files;
import java.nio.file.Path;
import java.util.regex.Matcher;
import java.util.regex.Pattern;

/** Makes the calls on README.md, one behind the other, and compares what the comments begin with. */
public final class ReadmeSays extends Asking {
    static final Pattern CALL = Pattern.compile("^x\\.(\\w+)\\(([^)]*)\\);\\s+// (-?\\d+): .*$");

    public static void main(String[] args) throws Exception {
        Path page = Path.of(args.length > 0 ? args[0] : ".", "README.md");
        TwinSpan x = new TwinSpan();
        for (String line : Files.readAllLines(page, StandardCharsets.UTF_8)) {
            Matcher call = CALL.matcher(line);
            if (call.matches()) {
                due(0, line, answer(x, call.group(1), call.group(2)), Long.parseLong(call.group(3)));
            } else {
                due(0, "a line that can't be read: " + line, line.startsWith("x.") ? 1 : 0, 0);
            }
        }
        end();
    }

    static long answer(TwinSpan x, String name, String told) throws Exception {
        String[] words = told.split(", ");
        for (Method method : TwinSpan.class.getMethods()) {
            Class<?>[] types = method.getParameterTypes();
            if (!method.getName().equals(name) || types.length != words.length) {
                continue;
            }
            Object[] values = new Object[words.length];
            for (int i = 0; i < words.length; i++) {
                boolean isLong = types[i] == long.class;
                values[i] = isLong ? (Object) Long.valueOf(words[i]) : (Object) Integer.valueOf(words[i]);
            }
            return ((Number) method.invoke(x, values)).longValue();
        }
        throw new IllegalArgumentException("no such call: " + name);
    }
}
