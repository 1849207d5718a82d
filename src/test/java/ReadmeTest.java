import java.io.IOException;
import java.lang.reflect.Method;
import java.lang.reflect.Modifier;
import java.nio.file.Files;
import java.nio.file.Path;
import java.util.HashSet;
import java.util.Set;
import java.util.regex.Matcher;
import java.util.regex.Pattern;

/** Runs the examples of README.md, and asks that they answer as it says and show each call of the face. */
final class ReadmeTest {
    private static final Pattern BEGINNING = Pattern.compile("CondoLedger ledger = new CondoLedger\\(\\);");
    private static final Pattern TEXT =
            Pattern.compile("for \\(char c : \"([^\"]*)\"\\.toCharArray\\(\\)\\) ledger\\.append\\(c\\);");
    private static final Pattern CALL =
            Pattern.compile("ledger\\.(\\w+)\\(([^()]*)\\); *(?:// (?:throws (\\w+)|([-.0-9]+)(?::? .*)?))?");

    private static final Set<String> shown = new HashSet<>();
    private static CondoLedger ledger;

    public static void main(String[] args) throws IOException {
        boolean isExample = false;
        for (String line : Files.readAllLines(Path.of("README.md"))) {
            if (line.startsWith("```")) {
                isExample = line.equals("```java");
            } else if (isExample) {
                run(line);
            }
        }
        Check.begin("README.md");
        for (Method method : CondoLedger.class.getDeclaredMethods()) {
            if (Modifier.isPublic(method.getModifiers()) && !shown.contains(method.getName())) {
                Check.report("no example shows " + method.getName());
            }
        }
        Check.end();
    }

    private static void run(String line) {
        Check.begin(line);
        Matcher text = TEXT.matcher(line);
        Matcher call = CALL.matcher(line);
        if (BEGINNING.matcher(line).matches()) {
            ledger = Call.newLedger();
        } else if (text.matches()) {
            shown.add("append");
            for (char sign : text.group(1).toCharArray()) {
                Call.of("append", sign).on(ledger);
            }
        } else if (call.matches()) {
            shown.add(call.group(1));
            String told = Call.of(call.group(1), arguments(call.group(2))).told(ledger);
            if (!isDue(told, call.group(3), call.group(4))) {
                Check.report("it answered " + told);
            }
        } else {
            Check.report("this line is no example that can be run");
        }
    }

    private static Object[] arguments(String list) {
        String[] words = list.isEmpty() ? new String[0] : list.split(", ");
        Object[] arguments = new Object[words.length];
        for (int i = 0; i < words.length; i++) {
            boolean isNumber = words[i].matches("-?[0-9]+");
            arguments[i] = isNumber ? (Object) Integer.valueOf(words[i]) : (Object) Boolean.valueOf(words[i]);
        }
        return arguments;
    }

    private static boolean isDue(String told, String exception, String answer) {
        if (exception != null) {
            return told.endsWith("." + exception);
        }
        // A call without an answer, such as save, has no comment.
        return told.equals(answer == null ? "null" : answer);
    }
}
