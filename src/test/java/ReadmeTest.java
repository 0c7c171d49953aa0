import java.io.IOException;
import java.lang.reflect.Method;
import java.nio.file.Files;
import java.nio.file.Path;
import java.util.regex.Matcher;
import java.util.regex.Pattern;

/** README.md: each call that it shows answers as it shows, one behind another on one object; and it names each call. */
public final class ReadmeTest {
    private static final Path README = Path.of("README.md");
    private static final Pattern CALL = Pattern.compile("street\\.(\\w+)\\(([-\\d, ]*)\\);(.*)");
    private static final Pattern ANSWER = Pattern.compile(" *// (-?\\d+)(:.*)?");
    private static final Pattern FED = Pattern.compile("for \\(char letter : \"([^\"]*)\"\\.toCharArray\\(\\)\\) \\{");

    public static void main(String[] args) throws IOException, ReflectiveOperationException {
        StreetTillTen street = new StreetTillTen();
        int calls = 0;
        for (String line : Files.readAllLines(README)) {
            Matcher fed = FED.matcher(line.trim());
            Matcher call = CALL.matcher(line.trim());
            if (fed.matches()) {
                Due.feed(street, fed.group(1));
            } else if (call.matches()) {
                calls++;
                shown(street, call);
            }
        }
        Due.is("calls are shown", calls > 20 ? 1 : 0, 1);
        namesEachCall(Files.readString(README));
        Due.end();
    }

    private static void shown(StreetTillTen street, Matcher call) throws ReflectiveOperationException {
        Matcher answer = ANSWER.matcher(call.group(3));
        Due.is(call.group() + " shows an answer", answer.matches() ? 1 : 0, 1);
        if (!answer.matches()) {
            return;
        }
        String[] numbers = call.group(2).isBlank() ? new String[0] : call.group(2).split(", *");
        Class<?>[] types = new Class<?>[numbers.length];
        Object[] values = new Object[numbers.length];
        for (int i = 0; i < numbers.length; i++) {
            types[i] = int.class;
            values[i] = Integer.valueOf(numbers[i]);
        }
        Method method = StreetTillTen.class.getMethod(call.group(1), types);
        long got = ((Number) method.invoke(street, values)).longValue();
        Due.is("README: " + call.group(), got, Long.parseLong(answer.group(1)));
    }

    private static void namesEachCall(String readme) {
        for (Method method : StreetTillTen.class.getDeclaredMethods()) {
            if (java.lang.reflect.Modifier.isPublic(method.getModifiers())) {
                Due.is("README names " + method.getName(), readme.contains("`" + method.getName() + "(") ? 1 : 0, 1);
            }
        }
    }
}
