import java.io.IOException;
import java.lang.reflect.Method;
import java.nio.file.Files;
import java.nio.file.Path;
import java.util.regex.Matcher;
import java.util.regex.Pattern;

/** The example in README.md: each call has the answer with which its comment begins. */
public final class ReadmeTest {
    private static final Pattern EXAMPLE = Pattern.compile("(?s)```java\n(.*?)```");
    private static final Pattern CALL = Pattern.compile("office\\.(\\w+)\\((.*)\\); +// (-?\\d+|true|false)\\b.*");
    private static final String FIRST_LINE = "CrowningSeats office = new CrowningSeats();";

    public static void main(String[] args) throws IOException, ReflectiveOperationException {
        Matcher example = EXAMPLE.matcher(Files.readString(Path.of("README.md")));
        if (!example.find() || !example.group(1).startsWith(FIRST_LINE)) {
            System.out.println("README.md has no example that makes an office");
            System.exit(1);
        }
        CrowningSeats office = new CrowningSeats();
        int right = 0;
        int wrong = 0;
        for (String line : example.group(1).substring(FIRST_LINE.length()).split("\n")) {
            if (line.isEmpty() || line.startsWith("// ")) {
                continue;
            }
            if (isAsWritten(office, line)) {
                right++;
            } else {
                wrong++;
            }
        }
        System.out.println(right + " calls of the example answer as it says, " + wrong + " do not");
        if (right == 0 || wrong != 0) {
            System.exit(1);
        }
    }

    private static boolean isAsWritten(CrowningSeats office, String line) throws ReflectiveOperationException {
        Matcher call = CALL.matcher(line);
        if (!call.matches()) {
            System.out.println("not a call with its answer: " + line);
            return false;
        }
        String answer = String.valueOf(answerOf(office, call.group(1), call.group(2)));
        if (!answer.equals(call.group(3))) {
            System.out.println("answered " + answer + ": " + line);
            return false;
        }
        return true;
    }

    private static Object answerOf(CrowningSeats office, String name, String written)
        throws ReflectiveOperationException {
        String[] parts = written.isEmpty() ? new String[0] : written.split(", ");
        Class<?>[] types = new Class<?>[parts.length];
        Object[] values = new Object[parts.length];
        for (int i = 0; i < parts.length; i++) {
            boolean isTruth = parts[i].equals("true") || parts[i].equals("false");
            types[i] = isTruth ? boolean.class : int.class;
            values[i] = isTruth ? (Object) parts[i].equals("true") : (Object) Integer.decode(parts[i]);
        }
        Method method = CrowningSeats.class.getMethod(name, types);
        return method.invoke(office, values);
    }
}
