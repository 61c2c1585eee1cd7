import java.io.IOException;
import java.lang.reflect.Method;
import java.lang.reflect.Modifier;
import java.nio.file.Files;
import java.nio.file.Path;
import java.util.HashMap;
import java.util.Map;
import java.util.regex.Matcher;
import java.util.regex.Pattern;
import java.util.stream.Stream;

/** README.md tells the truth: its examples answer what stands behind them, and it names each call and each test. */
public final class ReadmeTest {
    private static final Due DUE = new Due("readme");
    private static final Pattern BLOCK = Pattern.compile("(?s)```java\\n(.*?)```");
    private static final Pattern CALL = Pattern.compile("m\\.(\\w+)\\((.*?)\\);\\s*// (-?\\d+|true|false)\\b.*");
    private static final String MADE = "MistHands m = new MistHands();";

    public static void main(String[] args) throws Exception {
        Path root = Path.of(System.getProperty("project.root", "."));
        String page = Files.readString(root.resolve("README.md"));
        Map<String, Method> calls = calls();
        int blocks = 0;
        for (Matcher block = BLOCK.matcher(page); block.find(); blocks++) {
            example(block.group(1), calls);
        }
        DUE.is("examples of use, and of what is refused", blocks, 2);
        for (String name : calls.keySet()) {
            DUE.is("names " + name, page.contains("`" + name + "`"), true);
        }
        tests(page, root.resolve("src/test/java"));
        DUE.end();
    }

    private static Map<String, Method> calls() {
        Map<String, Method> calls = new HashMap<>();
        for (Method method : MistHands.class.getDeclaredMethods()) {
            if (Modifier.isPublic(method.getModifiers())) {
                calls.put(method.getName(), method);
            }
        }
        return calls;
    }

    private static void example(String block, Map<String, Method> calls) throws Exception {
        String[] lines = block.split("\n");
        DUE.is("an example makes an object first: " + lines[0], lines[0].equals(MADE), true);
        MistHands hands = new MistHands();
        for (int i = 1; i < lines.length; i++) {
            Matcher call = CALL.matcher(lines[i]);
            if (call.matches()) {
                Method method = calls.get(call.group(1));
                DUE.is(lines[i] + " is a call", method != null, true);
                Object got = method.invoke(hands, numbers(call.group(2)));
                DUE.is(lines[i] + " answered " + got + ":", got.toString().equals(call.group(3)), true);
            } else {
                DUE.is(lines[i] + " is a remark", lines[i].isBlank() || lines[i].startsWith("//"), true);
            }
        }
    }

    private static Object[] numbers(String text) {
        return Stream.of(text.split(", ")).filter(t -> !t.isEmpty()).map(Integer::decode).toArray();
    }

    private static void tests(String page, Path folder) throws IOException {
        try (Stream<Path> files = Files.list(folder)) {
            for (Path file : files.filter(f -> f.toString().endsWith("Test.java")).toList()) {
                String name = file.getFileName().toString().replace(".java", "");
                DUE.is("names " + name, page.contains("`" + name + "`"), true);
            }
        }
        DUE.is("names the script", page.contains("`.ci/run`"), true);
    }
}
