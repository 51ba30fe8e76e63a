import java.io.IOException;
import java.lang.reflect.InvocationTargetException;
import java.lang.reflect.Method;
import java.lang.reflect.Modifier;
import java.nio.file.Files;
import java.nio.file.Path;
import java.util.List;
import java.util.regex.Matcher;
import java.util.regex.Pattern;
import java.util.stream.Stream;

/** README.md tells of the class and the tests as they stand. */
public final class ReadmeTest {
    private static final Pattern CALL = Pattern.compile("x\\.(\\w+)\\((.*)\\);\\s+// (-?\\d+): .*");
    private static int wrong = 0;

    public static void main(String[] args) throws IOException, ReflectiveOperationException {
        List<String> lines = Files.readAllLines(Path.of("README.md"));
        callsAnswerWhatStandsBehindThem(lines);
        String text = String.join("\n", lines);
        for (Method method : LetterStore.class.getDeclaredMethods()) {
            if (Modifier.isPublic(method.getModifiers())) {
                isNamed(text, "`" + method.getName() + "(");
            }
        }
        try (Stream<Path> files = Files.walk(Path.of("src/test"))) {
            for (Path file : files.filter(Files::isRegularFile).toList()) {
                isNamed(text, "`" + file.getFileName().toString().replace(".java", "") + "`");
            }
        }
        if (wrong != 0) {
            System.out.println(wrong + " things in README.md are not as due");
            System.exit(1);
        }
    }

    private static void callsAnswerWhatStandsBehindThem(List<String> lines) throws ReflectiveOperationException {
        LetterStore store = new LetterStore();
        int calls = 0;
        for (String line : lines) {
            Matcher call = CALL.matcher(line);
            if (call.matches()) {
                calls++;
                int answer = answerOf(store, call.group(1), call.group(2));
                due(line, answer, Integer.parseInt(call.group(3)));
            } else if (line.startsWith("x.")) {
                wrong++;
                System.out.println("not read: " + line);
            }
        }
        due("enough calls", calls > 10 ? 1 : 0, 1);
    }

    private static int answerOf(LetterStore store, String name, String words)
            throws IllegalAccessException, InvocationTargetException {
        String[] given = words.isEmpty() ? new String[0] : words.split(", ");
        for (Method method : LetterStore.class.getDeclaredMethods()) {
            if (method.getName().equals(name) && method.getParameterCount() == given.length) {
                Object[] numbers = new Object[given.length];
                for (int i = 0; i < given.length; i++) {
                    boolean isTruth = method.getParameterTypes()[i] == boolean.class;
                    numbers[i] = isTruth ? (Object) Boolean.valueOf(given[i]) : (Object) Integer.valueOf(given[i]);
                }
                return (Integer) method.invoke(store, numbers);
            }
        }
        throw new IllegalStateException("there is no " + name + " of " + given.length + " numbers");
    }

    private static void due(String what, int got, int want) {
        if (got != want) {
            wrong++;
            System.out.println(what + " answered " + got + ", due is " + want);
        }
    }

    private static void isNamed(String text, String name) {
        if (!text.contains(name)) {
            wrong++;
            System.out.println("README.md does not name " + name);
        }
    }
}
