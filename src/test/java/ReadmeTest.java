import java.lang.reflect.Method;
import java.nio.file.Files;
import java.nio.file.Path;
import java.util.ArrayList;
import java.util.List;
import java.util.Set;
import java.util.TreeSet;
import java.util.regex.Matcher;
import java.util.regex.Pattern;

/** Every call that README.md shows has the answer that it shows behind it; run from the project's folder. */
public final class ReadmeTest {
    private static final Due due = new Due("ReadmeTest");
    private static final String MAKING = "RoadDesk desk = new RoadDesk();";
    private static final Pattern CALL = Pattern.compile("desk\\.(\\w+)\\(([-+* 0-9,]*)\\); // (-?\\w+)(?:, .*)?");
    /** Calls that are allowed on one object. */
    private static final int LIMIT = 512;

    public static void main(String[] args) throws Exception {
        List<String> lines = javaLines(Files.readAllLines(Path.of("README.md")));
        due.yes("README.md shows calls", lines.contains(MAKING));
        Set<String> shown = new TreeSet<>();
        Object desk = null;
        Object model = null;
        int calls = 0;
        for (String line : lines) {
            Matcher call = CALL.matcher(line);
            if (line.equals(MAKING)) {
                desk = new RoadDesk();
                model = new Model();
                calls = 0;
            } else if (call.matches()) {
                due.yes(line + " has an object", desk != null);
                check(line, call, desk);
                check(line + " by Model", call, model);
                shown.add(call.group(1));
                calls++;
                due.yes("calls on one object up to " + line, calls <= LIMIT);
            } else {
                due.yes("a call with its answer, or a comment: " + line, line.isEmpty() || line.startsWith("// "));
            }
        }
        for (Method method : RoadDesk.class.getDeclaredMethods()) {
            if (java.lang.reflect.Modifier.isPublic(method.getModifiers())) {
                due.yes("README.md shows " + method.getName(), shown.contains(method.getName()));
            }
        }
        due.end();
    }

    /** The lines between ```java and ```. */
    private static List<String> javaLines(List<String> all) {
        List<String> lines = new ArrayList<>();
        boolean inside = false;
        for (String line : all) {
            if (line.startsWith("```")) {
                inside = line.equals("```java");
            } else if (inside) {
                lines.add(line);
            }
        }
        return lines;
    }

    private static void check(String line, Matcher call, Object desk) throws Exception {
        String[] written = call.group(2).split(",");
        Class<?>[] types = new Class<?>[written.length];
        Object[] numbers = new Object[written.length];
        for (int i = 0; i < written.length; i++) {
            types[i] = int.class;
            numbers[i] = sum(written[i]);
        }
        Object answer = desk.getClass().getDeclaredMethod(call.group(1), types).invoke(desk, numbers);
        due.is(line, answer instanceof Boolean ? Twins.bit((Boolean) answer) : (Integer) answer, answer(call.group(3)));
        due.same(line + " answers a boolean", answer instanceof Boolean, call.group(3).matches("true|false"));
    }

    /** Of products of whole numbers. */
    private static int sum(String written) {
        int sum = 0;
        for (String term : written.split("\\+")) {
            int product = 1;
            for (String factor : term.split("\\*")) {
                product *= Integer.parseInt(factor.trim());
            }
            sum += product;
        }
        return sum;
    }

    private static int answer(String written) {
        switch (written) {
            case "true": return 1;
            case "false": return 0;
            case "NONE": return RoadDesk.NONE;
            case "BAD": return RoadDesk.BAD;
            default: return Integer.parseInt(written);
        }
    }
}
