import java.lang.reflect.Method;
import java.nio.file.Files;
import java.nio.file.Path;
import java.util.List;
import java.util.Map;
import java.util.TreeMap;
import java.util.regex.Matcher;
import java.util.regex.Pattern;

/** The calls that README.md shows, each with the answer behind it; its tables name every call. */
public final class ReadmeTest {
    private static final Pattern NEW = Pattern.compile("ReadFromAnywhere x = new ReadFromAnywhere\\(\\);");
    private static final Pattern TELL =
        Pattern.compile("for \\(char c : \"([^\"]*)\"\\.toCharArray\\(\\)\\) x\\.letter\\(c\\);");
    private static final Pattern CALL = Pattern.compile("x\\.(\\w+)\\(([-0-9, ]*)\\); +// (-?\\d+)(:.*)?");

    public static void main(String[] args) throws Exception {
        Check check = new Check();
        List<String> rows = Files.readAllLines(Path.of("README.md"));
        check.part("README");
        Map<String, Method> calls = new TreeMap<>();
        for (Method method : ReadFromAnywhere.class.getDeclaredMethods()) {
            calls.put(method.getName(), method);
        }
        examples(check, rows, calls);
        names(check, rows);
        check.end();
    }

    private static void examples(Check check, List<String> rows, Map<String, Method> calls) throws Exception {
        ReadFromAnywhere x = null;
        boolean shown = false;
        int asked = 0;
        for (String row : rows) {
            if (row.startsWith("```")) {
                shown = row.equals("```java");
                continue;
            }
            if (!shown) {
                continue;
            }
            Matcher tell = TELL.matcher(row);
            Matcher call = CALL.matcher(row);
            if (NEW.matcher(row).matches()) {
                x = new ReadFromAnywhere();
            } else if (x != null && tell.matches()) {
                for (char c : tell.group(1).toCharArray()) {
                    x.letter(c);
                }
            } else if (x != null && call.matches() && calls.containsKey(call.group(1))) {
                int answer = (Integer) calls.get(call.group(1)).invoke(x, numbers(call.group(2)));
                check.due(row, answer, Integer.parseInt(call.group(3)));
                asked++;
            } else {
                check.holds("a call with its answer: " + row, false);
            }
        }
        check.holds("calls are shown", asked > 0);
    }

    private static Object[] numbers(String text) {
        if (text.isEmpty()) {
            return new Object[0];
        }
        String[] parts = text.split(", ");
        Object[] numbers = new Object[parts.length];
        for (int i = 0; i < parts.length; i++) {
            numbers[i] = Integer.valueOf(parts[i]);
        }
        return numbers;
    }

    private static void names(Check check, List<String> rows) {
        StringBuilder tables = new StringBuilder();
        for (String row : rows) {
            if (row.startsWith("| `")) {
                tables.append(row);
            }
        }
        for (String call : FaceTest.names()) {
            check.holds("a table names " + call, tables.indexOf("`" + call + "`") >= 0);
        }
    }
}
