import java.io.File;
import java.io.IOException;
import java.lang.reflect.InvocationTargetException;
import java.lang.reflect.Method;
import java.nio.file.Files;
import java.nio.file.Path;
import java.util.HashMap;
import java.util.List;
import java.util.Map;
import java.util.regex.Matcher;
import java.util.regex.Pattern;

/** README.md's example answers what stands behind each of its calls; its path is the second argument. */
final class ReadmeTest extends Check {
    private static final Pattern NEW = Pattern.compile("IronbridgeCache net = new IronbridgeCache\\(\\);");
    private static final Pattern CALL =
        Pattern.compile("(?:int (\\w+) = )?net\\.(\\w+)\\((.*?)\\);\\s+// (throws \\w+|[^:]+): .+");

    private final Map<String, Object> names = new HashMap<>(Map.of("true", true, "false", false));
    private IronbridgeCache net;

    public static void main(String[] args) throws IOException, IllegalAccessException {
        if (args.length < 2) {
            System.out.println("the path of README.md is missing");
            System.exit(1);
        }
        Path readme = Path.of(args[1]);
        List<String> lines = Files.readAllLines(readme);
        new ReadmeTest().example(lines);
        command(lines);
        tests(lines, readme.resolveSibling("src/test/java").toFile());
        close("ReadmeTest");
    }

    private void example(List<String> lines) throws IllegalAccessException {
        int from = lines.indexOf("```java");
        same("an example", from >= 0, true);
        int calls = 0;
        for (int i = from + 1; i < lines.size() && !lines.get(i).equals("```"); i++) {
            String line = lines.get(i);
            if (NEW.matcher(line).matches()) {
                net = new IronbridgeCache();
                continue;
            }
            Matcher call = CALL.matcher(line);
            same("a call with its answer: " + line, call.matches(), true);
            if (call.matches()) {
                sameText(line, answerOf(call), call.group(4));
                calls++;
            }
        }
        same("calls in it", calls > 0, true);
    }

    private String answerOf(Matcher call) throws IllegalAccessException {
        String[] written = call.group(3).isEmpty() ? new String[0] : call.group(3).split(", ");
        Object[] values = new Object[written.length];
        for (int i = 0; i < written.length; i++) {
            values[i] = names.containsKey(written[i]) ? names.get(written[i]) : (Object) Integer.valueOf(written[i]);
        }
        try {
            Object answer = methodNamed(call.group(2)).invoke(net, values);
            if (call.group(1) != null) {
                names.put(call.group(1), answer);
            }
            return String.valueOf(answer);
        } catch (InvocationTargetException e) {
            return "throws " + e.getCause().getClass().getSimpleName();
        }
    }

    private static Method methodNamed(String name) {
        for (Method method : IronbridgeCache.class.getMethods()) {
            if (method.getName().equals(name)) {
                return method;
            }
        }
        throw new IllegalStateException("README.md calls what there is not: " + name);
    }

    private static void command(List<String> lines) {
        same("the command that runs the tests", lines.contains("    .ci/run"), true);
    }

    private static void tests(List<String> lines, File folder) {
        String[] files = folder.list();
        same("a folder of tests", files != null && files.length > 0, true);
        if (files == null) {
            return;
        }
        for (String file : files) {
            if (file.endsWith("Test.java")) {
                Pattern row = Pattern.compile("\\| (.*, )?" + file.replace(".java", "") + "(, .*)? \\|.*\\|");
                same("the table names " + file, lines.stream().anyMatch(line -> row.matcher(line).matches()), true);
            }
        }
    }
}
