import java.io.IOException;
import java.lang.reflect.InvocationTargetException;
import java.lang.reflect.Method;
import java.nio.charset.StandardCharsets;
import java.nio.file.Files;
import java.nio.file.Path;
import java.util.Set;
import java.util.TreeSet;
import java.util.regex.Matcher;
import java.util.regex.Pattern;

/** Plays the examples of README.md line by line on one object: each has to answer, or throw, what its comment tells. */
public final class ReadmeTest {
    private static final Pattern PUT = Pattern.compile("put\\(reckoner, \"([^\"]*)\"\\);");
    private static final Pattern CALL =
        Pattern.compile("reckoner\\.(\\w+)\\(([-0-9, ]*)\\); +// (throws )?([-\\w]+): .*");

    private final RoundReckoner reckoner = new RoundReckoner();
    private final Set<String> played = new TreeSet<>();

    private ReadmeTest() {
    }

    public static void main(String[] args) throws IOException {
        ReadmeTest test = new ReadmeTest();
        for (String line : Files.readAllLines(Path.of("README.md"), StandardCharsets.UTF_8)) {
            test.play(line);
        }
        // The texts come by feed and end.
        Checks.dueText("calls of the examples", test.played.toString(),
            "[answer, ask, count, drop, find, layer, run, show, tell, tuple, untell, why, word]");
        Checks.finish("ReadmeTest");
    }

    private void play(String line) {
        Matcher text = PUT.matcher(line);
        if (text.matches()) {
            Checks.put(reckoner, text.group(1));
            return;
        }
        Matcher call = CALL.matcher(line);
        if (call.matches()) {
            played.add(call.group(1));
            Checks.dueText(line, saidBy(call.group(1), call.group(2)), call.group(4));
        } else if (line.startsWith("reckoner.")) {
            Checks.dueText(line, "a call without an answer", "a call with its answer");
        }
    }

    private String saidBy(String name, String numbers) {
        String[] written = numbers.isEmpty() ? new String[0] : numbers.split(", ");
        Object[] arguments = new Object[written.length];
        Class<?>[] types = new Class<?>[written.length];
        for (int k = 0; k < written.length; k++) {
            arguments[k] = Integer.valueOf(written[k]);
            types[k] = int.class;
        }
        try {
            Method method = RoundReckoner.class.getMethod(name, types);
            return String.valueOf(method.invoke(reckoner, arguments));
        } catch (InvocationTargetException e) {
            return e.getCause().getClass().getSimpleName();
        } catch (ReflectiveOperationException e) {
            return "nothing: there is no such call";
        }
    }
}
