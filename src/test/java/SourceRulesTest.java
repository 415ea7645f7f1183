import java.io.IOException;
import java.nio.file.Files;
import java.nio.file.Path;
import java.util.Set;
import java.util.TreeSet;
import java.util.regex.Matcher;
import java.util.regex.Pattern;

/** What can be told from the program's text of LANGUAGE.md's rules. The argument is the program's path. */
public final class SourceRulesTest {
    private static final String[] NEVER = {
        "throw", "throws", "try", "catch", "finally", "synchronized", "assert", "package", "protected", "Exception", "Error",
        "Object", "equals", "hashCode", "toString", "lambda", "transient", "volatile", "native", "Random", "nanoTime",
        "currentTimeMillis", "Thread", "double", "float",
    };

    public static void main(String[] args) throws IOException {
        Check check = new Check();
        String path = args.length > 0 ? args[0] : "src/main/java/SpanLoom.java";
        String text = Files.readString(Path.of(path));
        String code = withoutComments(text);
        for (String word : NEVER) {
            check.due("the word " + word, Pattern.compile("\\b" + word + "\\b").matcher(code).find(), false);
        }
        check.due("a lambda", code.contains("->"), false);
        check.due("a method reference", code.contains("::"), false);
        check.due("a text", code.contains("\""), false);
        check.due("characters above 127", text.chars().anyMatch(c -> c > 127), false);
        libraryCalls(check, code);
        imports(check, code);
        methodLengths(check, code);
        check.end();
    }

    private static String withoutComments(String text) {
        return text.replaceAll("(?s)/\\*.*?\\*/", "").replaceAll("//[^\n]*", "");
    }

    private static void libraryCalls(Check check, String code) {
        Set<String> allowed = Set.of("Math.max", "Math.min", "Math.abs", "Math.floorMod", "Arrays.fill", "System.arraycopy");
        Matcher call = Pattern.compile("\\b(Math|Arrays|System|Integer|Long|String|List|ArrayList)\\.\\w+").matcher(code);
        while (call.find()) {
            check.due("the call " + call.group(), allowed.contains(call.group()) || call.group().equals("Arrays;"), true);
        }
    }

    private static void imports(Check check, String code) {
        Set<String> found = new TreeSet<>();
        Matcher line = Pattern.compile("import ([^;]+);").matcher(code);
        while (line.find()) {
            found.add(line.group(1));
        }
        check.due("imports", found.equals(Set.of("java.util.Arrays")), true);
    }

    private static void methodLengths(Check check, String code) {
        String[] lines = code.split("\n");
        int start = -1;
        String indent = "";
        for (int k = 0; k < lines.length; k++) {
            Matcher head = Pattern.compile("^(\\s+)[\\w\\[\\] ]+\\([^)]*\\) \\{$").matcher(lines[k]);
            boolean control = lines[k].trim().matches("^(if|for|while|switch|\\}|do|else)\\b.*");
            if (start < 0 && head.find() && !control) {
                start = k;
                indent = head.group(1);
            } else if (start >= 0 && lines[k].equals(indent + "}")) {
                check.due("lines of " + lines[start].trim() + " are at most sixty", k - start < 60, true);
                start = -1;
            }
        }
    }
}
