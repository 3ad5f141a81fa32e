import java.io.IOException;
import java.lang.reflect.Method;
import java.nio.file.Files;
import java.nio.file.Path;
import java.util.HashMap;
import java.util.List;
import java.util.Map;
import java.util.regex.Matcher;
import java.util.regex.Pattern;
import java.util.stream.Stream;

/** README.md's example answers what its lines say, and README.md names every test. Runs in the project's folder. */
public final class ReadmeTest {
    private static final Check check = new Check("ReadmeTest");
    private static final String MAKING = "ProtocolBench bench = new ProtocolBench();";
    private static final Pattern CALL =
        Pattern.compile("(?:int (\\w+) = )?bench\\.(\\w+)\\(([^()]*)\\);\\s*// (-?\\d+|[A-Z]+): .*");

    private ReadmeTest() {
    }

    private static List<String> example(String text) {
        Matcher m = Pattern.compile("(?s)```java\n(.*?)```").matcher(text);
        check.holds("README.md has an example", m.find());
        return m.group(1).lines().filter(line -> !line.isBlank()).toList();
    }

    private static Method method(String name) {
        return Stream.of(ProtocolBench.class.getMethods()).filter(m -> m.getName().equals(name)).findFirst().orElseThrow();
    }

    private static int number(String word, Map<String, Integer> known) throws ReflectiveOperationException {
        if (word.matches("-?\\d+")) {
            return Integer.parseInt(word);
        }
        return known.containsKey(word) ? known.get(word) : ProtocolBench.class.getField(word).getInt(null);
    }

    private static Object[] arguments(Method call, String told, Map<String, Integer> known)
            throws ReflectiveOperationException {
        String[] words = told.isEmpty() ? new String[0] : told.split(", ");
        Object[] all = new Object[words.length];
        for (int i = 0; i < words.length; i++) {
            boolean isTruth = call.getParameterTypes()[i] == boolean.class;
            all[i] = isTruth ? (Object) words[i].equals("true") : (Object) number(words[i], known);
        }
        return all;
    }

    private static void run(List<String> lines) throws ReflectiveOperationException {
        check.holds("the example begins with " + MAKING, lines.get(0).equals(MAKING));
        ProtocolBench bench = new ProtocolBench();
        Map<String, Integer> known = new HashMap<>();
        for (String line : lines.subList(1, lines.size())) {
            Matcher m = CALL.matcher(line);
            check.holds("a call with its answer: " + line, m.matches());
            if (!m.matches()) {
                continue;
            }
            Method call = method(m.group(2));
            int answer = (int) call.invoke(bench, arguments(call, m.group(3), known));
            check.due(line, answer, number(m.group(4), known));
            if (m.group(1) != null) {
                known.put(m.group(1), answer);
            }
        }
    }

    private static void namesTests(String text) throws IOException {
        try (Stream<Path> files = Files.list(Path.of("src/test/java"))) {
            files.map(file -> file.getFileName().toString().replace(".java", ""))
                .forEach(name -> check.holds("README.md names " + name, text.contains("`" + name + "`")));
        }
    }

    public static void main(String[] args) throws IOException, ReflectiveOperationException {
        String text = Files.readString(Path.of("README.md"));
        run(example(text));
        namesTests(text);
        check.finish();
    }
}
