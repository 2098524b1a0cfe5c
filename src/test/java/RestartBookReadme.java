import java.lang.reflect.Method;
import java.lang.reflect.Modifier;
import java.nio.file.Files;
import java.nio.file.Path;
import java.util.List;
import java.util.Set;
import java.util.TreeSet;
import java.util.regex.Matcher;
import java.util.regex.Pattern;

/** The calls of README.md, made as they stand there, with the answers that stand behind them. */
public final class RestartBookReadme {
    private static final String NEW_BOOK = "RestartBook book = new RestartBook();";
    private static final Pattern CALL =
            Pattern.compile("book\\.(\\w+)\\(([^)]*)\\);\\s+// (-?\\d+|[A-Z]+)(: .+)?");
    private static final int MOST_CALLS = 512;

    private static int wrong = 0;
    private static RestartBook book = null;
    private static int calls = 0;
    private static final Set<String> called = new TreeSet<>();
    private static final Set<String> namedAnswers = new TreeSet<>();

    private static void fault(int line, String text) {
        wrong++;
        System.out.println("README.md, line " + line + ": " + text);
    }

    public static void main(String[] args) throws Exception {
        List<String> lines = Files.readAllLines(Path.of("README.md"));
        boolean inside = false;
        for (int i = 0; i < lines.size(); i++) {
            String line = lines.get(i).trim();
            if (line.startsWith("```")) {
                inside = line.equals("```java");
                book = null;
            } else if (inside && !line.isEmpty()) {
                follow(i + 1, line);
            }
        }
        everyCallIsShown();
        System.out.println(wrong == 0 ? "all answers are as due" : wrong + " answers are not as due");
        if (wrong != 0) {
            System.exit(1);
        }
    }

    private static void follow(int number, String line) throws Exception {
        if (line.equals(NEW_BOOK)) {
            book = new RestartBook();
            calls = 0;
            return;
        }
        Matcher parts = CALL.matcher(line);
        if (!parts.matches() || book == null) {
            fault(number, "is no call of a book with its answer: " + line);
            return;
        }
        if (++calls > MOST_CALLS) {
            fault(number, "is beyond the calls that are promised");
        }
        String name = parts.group(1);
        int[] numbers = numbersOf(parts.group(2));
        int got = answer(name, numbers);
        int want = valueOf(parts.group(3));
        if (got != want) {
            fault(number, name + "(" + parts.group(2) + ") answered " + got + ", due is " + parts.group(3));
        }
        called.add(name);
    }

    private static int[] numbersOf(String text) {
        if (text.isBlank()) {
            return new int[0];
        }
        String[] texts = text.split(",");
        int[] numbers = new int[texts.length];
        for (int i = 0; i < texts.length; i++) {
            numbers[i] = Integer.parseInt(texts[i].trim());
        }
        return numbers;
    }

    private static int answer(String name, int[] numbers) throws Exception {
        Class<?>[] types = new Class<?>[numbers.length];
        Object[] values = new Object[numbers.length];
        for (int i = 0; i < numbers.length; i++) {
            types[i] = int.class;
            values[i] = numbers[i];
        }
        return (Integer) RestartBook.class.getMethod(name, types).invoke(book, values);
    }

    private static int valueOf(String text) throws Exception {
        if (Character.isLetter(text.charAt(0))) {
            namedAnswers.add(text);
            return RestartBook.class.getField(text).getInt(null);
        }
        return Integer.parseInt(text);
    }

    private static void everyCallIsShown() {
        for (Method method : RestartBook.class.getDeclaredMethods()) {
            if (Modifier.isPublic(method.getModifiers()) && !called.contains(method.getName())) {
                fault(0, "no call of " + method.getName() + " is shown");
            }
        }
        for (String name : List.of("NONE", "UNKNOWN", "OUTSIDE", "STATE", "ROOM", "DOWN")) {
            if (!namedAnswers.contains(name)) {
                fault(0, "no answer " + name + " is shown");
            }
        }
    }
}
