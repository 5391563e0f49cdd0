import java.io.IOException;
import java.lang.reflect.InvocationTargetException;
import java.lang.reflect.Method;
import java.nio.file.Files;
import java.nio.file.Path;
import java.util.regex.Matcher;
import java.util.regex.Pattern;

/** The calls of README.md answer what stands behind them there. */
public final class ReadmeTest {
    private static final String NEW_OBJECT = "HangingChain chain = new HangingChain();";
    private static final Pattern CALL = Pattern.compile("chain\\.(\\w+)\\(([^()]*)\\); +// ([^:]+)(: .+)?");

    private final Check check = new Check();
    private HangingChain chain = null;
    private int calls = 0;

    public static void main(String[] args) throws IOException, IllegalAccessException {
        ReadmeTest test = new ReadmeTest();
        Path readme = Path.of(System.getProperty("readme", "README.md"));
        boolean inCode = false;
        for (String line : Files.readAllLines(readme)) {
            if (line.startsWith("```")) {
                inCode = line.equals("```java");
            } else if (inCode) {
                test.run(line);
            }
        }
        if (test.calls == 0) {
            test.check.tell("README.md has no calls");
        }
        test.check.end();
    }

    private void run(String line) throws IllegalAccessException {
        Matcher call = CALL.matcher(line);
        if (line.equals(NEW_OBJECT)) {
            chain = new HangingChain();
        } else if (chain != null && call.matches()) {
            calls++;
            String[] written = call.group(2).isEmpty() ? new String[0] : call.group(2).split(", ");
            check.text(line, answer(call.group(1), written), call.group(3));
        } else {
            check.tell("this is no call: " + line);
        }
    }

    private String answer(String name, String[] written) throws IllegalAccessException {
        Object[] arguments = new Object[written.length];
        for (int k = 0; k < written.length; k++) {
            boolean isCharacter = written[k].matches("'.'");
            arguments[k] = isCharacter ? (int) written[k].charAt(1) : Integer.parseInt(written[k]);
        }
        for (Method method : HangingChain.class.getMethods()) {
            if (method.getName().equals(name) && method.getParameterCount() == written.length) {
                try {
                    return String.valueOf(method.invoke(chain, arguments));
                } catch (InvocationTargetException thrown) {
                    return "throws " + thrown.getCause().getClass().getSimpleName();
                }
            }
        }
        return "no such method";
    }
}
