import java.lang.reflect.Method;
import java.nio.charset.StandardCharsets;
import java.nio.file.Files;
import java.nio.file.Path;
import java.util.HashMap;
import java.util.Map;
import java.util.regex.Matcher;
import java.util.regex.Pattern;

/** The calls that README.md shows, one after the other on one object, answer what stands beside them. */
public final class ReadmeTest {
    private static final Pattern CALL = Pattern.compile("land\\.(\\w+)\\(([^)]*)\\);\\s*// (\\S+): .*");

    private ReadmeTest() {
    }

    public static void main(String[] args) throws Exception {
        Map<String, Method> face = new HashMap<>();
        for (Method m : DrownedLand.class.getDeclaredMethods()) {
            face.put(m.getName(), m);
        }
        DrownedLand land = new DrownedLand();
        int calls = 0;
        Path readme = Path.of(System.getProperty("drowned.readme", "README.md"));
        for (String line : Files.readString(readme, StandardCharsets.UTF_8).split("\n")) {
            if (!line.startsWith("land.")) {
                continue;
            }
            calls++;
            Matcher shown = CALL.matcher(line);
            Check.due("a call with its answer: " + line, shown.matches(), true);
            if (shown.matches()) {
                Method m = face.get(shown.group(1));
                Check.due(line, number(m.invoke(land, arguments(m, shown.group(2)))), number(value(shown.group(3))));
            }
        }
        Check.due("README.md shows calls", calls > 20, true);
        Check.end("ReadmeTest");
    }

    private static Object[] arguments(Method m, String text) {
        Object[] all = new Object[m.getParameterCount()];
        String[] each = text.split(", *");
        for (int i = 0; i < all.length; i++) {
            all[i] = value(each[i]);
        }
        return all;
    }

    private static Object value(String text) {
        if (text.equals("true") || text.equals("false")) {
            return text.equals("true");
        }
        return Integer.decode(text);
    }

    private static long number(Object answer) {
        return answer instanceof Boolean b ? b ? 1 : 0 : ((Number) answer).longValue();
    }
}
