import java.lang.reflect.Method;
import java.nio.file.Files;
import java.nio.file.Path;
import java.util.HashMap;
import java.util.Map;
import java.util.regex.Matcher;
import java.util.regex.Pattern;

/** What README.md says that a call answers, "x.on();   // 3: why", is what it answers. */
public final class ReadmeTest {
    private static final Pattern TEXT = Pattern.compile("String text = \"([^\"]*)\";");
    private static final Pattern CALL = Pattern.compile("x\\.(\\w+)\\(([^()]*)\\);\\s+// (-?\\d+)\\b");
    private static final Map<String, Method> METHODS = new HashMap<>();

    private static long answer(BehindTractor x, Method m, String written) throws Exception {
        String[] parts = written.isEmpty() ? new String[0] : written.split(", ");
        Object[] arguments = new Object[parts.length];
        for (int i = 0; i < parts.length; i++) {
            boolean isTruth = m.getParameterTypes()[i] == boolean.class;
            arguments[i] = isTruth ? (Object) Boolean.valueOf(parts[i]) : (Object) Integer.valueOf(parts[i]);
        }
        return ((Number) m.invoke(x, arguments)).longValue();
    }

    public static void main(String[] args) throws Exception {
        for (Method m : BehindTractor.class.getMethods()) {
            METHODS.put(m.getName(), m);
        }
        String readme = Files.readString(Path.of("README.md"));
        BehindTractor x = new BehindTractor();
        Matcher text = TEXT.matcher(readme);
        boolean hasText = text.find();
        if (hasText) {
            text.group(1).chars().forEach(x::feed);
        }
        int calls = 0;
        int wrong = hasText ? 0 : 1;
        Matcher call = CALL.matcher(readme);
        while (call.find()) {
            calls++;
            long got = answer(x, METHODS.get(call.group(1)), call.group(2));
            if (got != Long.parseLong(call.group(3))) {
                wrong++;
                System.out.println("README.md: " + call.group() + ", answered " + got);
            }
        }
        boolean holds = wrong == 0 && calls >= 20;
        System.out.println(holds ? "README.md holds" : "README.md does not hold: " + calls + " calls, " + wrong + " wrong");
        if (!holds) {
            System.exit(1);
        }
    }
}
