import java.io.IOException;
import java.lang.reflect.Method;
import java.nio.file.Files;
import java.nio.file.Path;
import java.util.HashMap;
import java.util.Map;
import java.util.regex.Matcher;
import java.util.regex.Pattern;

/** README.md's example does what its comments say, and its table names every call of promises 2 to 20. */
public final class ReadmeTest {
    private static final Pattern TYPED = Pattern.compile("type\\(house, \"(.*)\"\\);");
    private static final Pattern CALLED = Pattern.compile("(?:int (\\w+) = )?house\\.(\\w+)\\((.*?)\\); +// (-?\\d+): .*");

    public static void main(String[] args) throws IOException, ReflectiveOperationException {
        Check c = new Check("README.md");
        String readme = Files.readString(Path.of("README.md"));
        c.due("lines of the example that were run", runExample(c, example(readme)), 13);
        for (Method method : EdgeHouse.class.getDeclaredMethods()) {
            if (java.lang.reflect.Modifier.isPublic(method.getModifiers())) {
                c.due("the table has " + method.getName(), readme.contains("`" + method.getName() + "("), true);
            }
        }
        c.due("how to run the tests", readme.contains("\n    .ci/run\n"), true);
        c.end();
    }

    private static String example(String readme) {
        String start = "EdgeHouse house = new EdgeHouse();\n";
        int from = readme.indexOf(start) + start.length();
        return readme.substring(from, readme.indexOf("```", from));
    }

    private static int runExample(Check c, String example) throws ReflectiveOperationException {
        Map<String, Integer> known = new HashMap<>();
        int run = 0;
        for (String line : example.split("\n")) {
            Matcher typed = TYPED.matcher(line);
            Matcher called = CALLED.matcher(line);
            if (typed.matches()) {
                c.type(typed.group(1).replace("\\n", "\n"));
            } else if (called.matches()) {
                int got = call(c.x, called.group(2), called.group(3), known);
                known.put(String.valueOf(called.group(1)), got);
                c.due(line, got, Integer.parseInt(called.group(4)));
            } else {
                c.due("a line of the example that can be run: " + line, false, true);
            }
            run++;
        }
        return run;
    }

    private static int call(EdgeHouse x, String name, String list, Map<String, Integer> known)
            throws ReflectiveOperationException {
        String[] words = list.isEmpty() ? new String[0] : list.split(", ");
        Class<?>[] kinds = new Class<?>[words.length];
        Object[] values = new Object[words.length];
        for (int i = 0; i < words.length; i++) {
            kinds[i] = int.class;
            values[i] = known.containsKey(words[i]) ? known.get(words[i]) : Integer.valueOf(words[i]);
        }
        return (Integer) EdgeHouse.class.getMethod(name, kinds).invoke(x, values);
    }
}
