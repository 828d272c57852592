import java.lang.reflect.Method;
import java.nio.file.Files;
import java.nio.file.Path;
import java.util.regex.Matcher;
import java.util.regex.Pattern;

/** The use that README.md shows: each of its calls answers the number that its comment begins with. */
public final class ReadmeTest extends Due {
    private static final Pattern CALL = Pattern.compile("x\\.(\\w+)\\((.*)\\);\\s*// (-?\\d+).*");

    public static void main(String[] args) throws Exception {
        String readme = Files.readString(Path.of("README.md"));
        String use = readme.split("```java\n")[1].split("```")[0];
        RodInThree x = new RodInThree();
        int calls = 0;
        for (String line : use.split("\n")) {
            Matcher call = CALL.matcher(line);
            if (call.matches()) {
                calls++;
                due(0, line, answer(x, call.group(1), call.group(2)), Long.parseLong(call.group(3)));
            } else {
                boolean isNoCall = line.isBlank() || line.startsWith("//") || line.equals("RodInThree x = new RodInThree();");
                due(0, "a line that is no call: " + line, isNoCall ? 1 : 0, 1);
            }
        }
        due(0, "calls that README.md shows, thirty or more", calls >= 30 ? 1 : 0, 1);
        for (Method m : RodInThree.class.getMethods()) {
            boolean isTold = m.getDeclaringClass() != RodInThree.class || readme.contains("`" + m.getName() + "`");
            due(0, "README.md tells of " + m.getName(), isTold ? 1 : 0, 1);
        }
        end();
    }

    /** The calls that are shown have ints alone. */
    private static int answer(RodInThree x, String name, String arguments) throws Exception {
        String[] told = arguments.isEmpty() ? new String[0] : arguments.split(", ");
        Class<?>[] types = new Class<?>[told.length];
        Object[] values = new Object[told.length];
        for (int i = 0; i < told.length; i++) {
            types[i] = int.class;
            values[i] = Integer.decode(told[i]);
        }
        return (Integer) RodInThree.class.getMethod(name, types).invoke(x, values);
    }
}
