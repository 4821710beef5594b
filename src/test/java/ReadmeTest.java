import java.lang.reflect.Method;
import java.nio.file.Files;
import java.nio.file.Path;
import java.util.Arrays;
import java.util.regex.Matcher;
import java.util.regex.Pattern;

/** The calls that README.md shows answer what it says. Run from the project's root. */
public final class ReadmeTest {
    private static final Pattern SHOWN = Pattern.compile("x\\.(\\w+)\\(([^)]*)\\); +// (-?\\d+):.*");

    public static void main(String[] args) throws Exception {
        ChiefCircles x = new ChiefCircles();
        int shown = 0;
        for (String line : Files.readAllLines(Path.of("README.md"))) {
            Matcher matcher = SHOWN.matcher(line);
            if (line.equals("ChiefCircles x = new ChiefCircles();")) {
                x = new ChiefCircles();
            } else if (matcher.matches()) {
                Check.due(line, Long.parseLong(matcher.group(3)), answer(x, matcher.group(1), matcher.group(2)));
                shown++;
            }
        }
        Check.due("calls are shown", shown > 0);
        Check.end();
    }

    private static long answer(ChiefCircles x, String name, String arguments) throws Exception {
        Object[] numbers = arguments.isEmpty() ? new Object[0]
            : Arrays.stream(arguments.split(", ")).map(Integer::decode).toArray();
        Class<?>[] types = new Class<?>[numbers.length];
        Arrays.fill(types, int.class);
        Method method = ChiefCircles.class.getMethod(name, types);
        return ((Number) method.invoke(x, numbers)).longValue();
    }
}
