import java.io.IOException;
import java.lang.reflect.Method;
import java.lang.reflect.Modifier;
import java.nio.file.Files;
import java.nio.file.Path;
import java.util.Arrays;
import java.util.List;
import java.util.Set;
import java.util.TreeSet;
import java.util.regex.Matcher;
import java.util.regex.Pattern;

/** README.md's example is answered as it says, and its table has every call with what it answers when refused. */
public final class ReadmeTest {
    private static final Pattern EXAMPLE = Pattern.compile("loom\\.(\\w+)\\(([^)]*)\\);\\s*// (true|false|-?\\d+)\\b.*");
    private static final Pattern ROW = Pattern.compile("\\| `(\\w+)\\(([^)]*)\\)` \\| .+ \\| `(\\w+)` \\|");
    private static final int NO_SUCH = 99;

    private final Check check = new Check();

    public static void main(String[] args) throws IOException, ReflectiveOperationException {
        List<String> lines = Files.readAllLines(Path.of("README.md"));
        ReadmeTest test = new ReadmeTest();
        test.example(lines);
        test.table(lines);
        test.check.end();
    }

    private void example(List<String> lines) throws ReflectiveOperationException {
        SpanLoom loom = new SpanLoom(5, 3);
        int made = 0;
        for (String line : lines) {
            Matcher example = EXAMPLE.matcher(line);
            if (example.matches()) {
                made++;
                int[] numbers = Arrays.stream(example.group(2).split(", ")).mapToInt(Integer::decode).toArray();
                check.due(line, answer(loom, method(example.group(1)), numbers), number(example.group(3)));
            } else {
                check.due("the answer stands behind " + line, line.startsWith("loom."), false);
            }
        }
        check.due("an example", made > 0, true);
        check.due("its object", lines.stream().anyMatch(line -> line.startsWith("SpanLoom loom = new SpanLoom(5, 3);")), true);
    }

    private void table(List<String> lines) throws ReflectiveOperationException {
        Set<String> told = new TreeSet<>();
        for (String line : lines) {
            Matcher row = ROW.matcher(line);
            if (!row.matches()) {
                continue;
            }
            Method method = method(row.group(1));
            told.add(method.getName());
            int[] numbers = new int[method.getParameterCount()];
            Arrays.fill(numbers, NO_SUCH);
            check.due("arguments of " + row.group(1), row.group(2).split(", ").length, numbers.length);
            check.due("refused " + row.group(1), answer(new SpanLoom(5, 3), method, numbers), number(row.group(3)));
        }
        Set<String> face = new TreeSet<>();
        for (Method method : SpanLoom.class.getDeclaredMethods()) {
            if (Modifier.isPublic(method.getModifiers())) {
                face.add(method.getName());
            }
        }
        check.due("the calls " + told + " are all of " + face, told.equals(face), true);
    }

    private static Method method(String name) {
        for (Method method : SpanLoom.class.getDeclaredMethods()) {
            if (method.getName().equals(name) && Modifier.isPublic(method.getModifiers())) {
                return method;
            }
        }
        throw new IllegalArgumentException("README.md names " + name + ", which is no call");
    }

    private static int answer(SpanLoom loom, Method method, int[] numbers) throws ReflectiveOperationException {
        Object answer = method.invoke(loom, Arrays.stream(numbers).boxed().toArray());
        return answer instanceof Integer number ? number : number(answer.toString());
    }

    private static int number(String word) {
        return switch (word) {
            case "true" -> 1;
            case "false" -> 0;
            case "NONE" -> SpanLoom.NONE;
            default -> Integer.parseInt(word);
        };
    }
}
