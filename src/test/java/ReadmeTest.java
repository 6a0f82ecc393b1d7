import java.io.IOException;
import java.lang.reflect.Method;
import java.lang.reflect.Modifier;
import java.nio.file.Files;
import java.nio.file.Path;
import java.util.Arrays;
import java.util.regex.Matcher;
import java.util.regex.Pattern;

/** The calls that README.md shows answer what it says behind them, and it names each call of the face. */
public final class ReadmeTest {
    private static final Pattern BLOCK = Pattern.compile("```java\n(.*?)```", Pattern.DOTALL);
    private static final String NEW = "SearchedAtTheGate gate = new SearchedAtTheGate();";
    private static final Pattern LETTERS = Pattern.compile("for \\(char letter : \"([^\"]*)\"\\.toCharArray\\(\\)\\) gate\\.feed\\(letter\\);");
    private static final Pattern CALL = Pattern.compile("gate\\.(\\w+)\\(([^)]*)\\); +// (-?[0-9]+): \\S.*");

    private static SearchedAtTheGate gate = null;
    private static int shown = 0;

    public static void main(String[] args) throws IOException, ReflectiveOperationException {
        String page = Files.readString(Path.of("README.md"));
        Matcher block = BLOCK.matcher(page);
        while (block.find()) {
            for (String line : block.group(1).split("\n")) follow(line);
        }
        Check.due("it shows calls", shown > 0 ? 1 : 0, 1);
        for (Method method : SearchedAtTheGate.class.getDeclaredMethods()) {
            if (!Modifier.isPublic(method.getModifiers())) continue;
            String call = "`" + method.getName() + (method.getParameterCount() == 0 ? "()`" : "(..)`");
            Check.due("it names " + call, page.contains(call) ? 1 : 0, 1);
        }
        Check.end();
    }

    private static void follow(String line) throws ReflectiveOperationException {
        Matcher letters = LETTERS.matcher(line);
        Matcher call = CALL.matcher(line);
        if (line.equals(NEW)) {
            gate = new SearchedAtTheGate();
        } else if (letters.matches()) {
            for (char letter : letters.group(1).toCharArray()) gate.feed(letter);
        } else if (call.matches()) {
            Check.due(line, answer(call.group(1), call.group(2)), Long.parseLong(call.group(3)));
            shown++;
        } else {
            Check.due("a line in java that can be followed: " + line, 0, 1);
        }
    }

    private static long answer(String name, String given) throws ReflectiveOperationException {
        Integer[] args = given.isEmpty() ? new Integer[0]
            : Arrays.stream(given.split(", ")).map(ReadmeTest::number).toArray(Integer[]::new);
        Class<?>[] types = new Class<?>[args.length];
        Arrays.fill(types, int.class);
        Method method = SearchedAtTheGate.class.getMethod(name, types);
        return ((Number) method.invoke(gate, (Object[]) args)).longValue();
    }

    private static int number(String text) {
        return text.startsWith("0b") ? Integer.parseInt(text.substring(2), 2) : Integer.parseInt(text);
    }
}
