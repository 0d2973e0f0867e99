import java.lang.reflect.Method;
import java.lang.reflect.Modifier;
import java.nio.file.Files;
import java.nio.file.Path;
import java.util.ArrayList;
import java.util.Arrays;
import java.util.List;
import java.util.Set;
import java.util.TreeSet;
import java.util.regex.Matcher;
import java.util.regex.Pattern;

/** Makes the calls of README.md's examples; each must give the answer with which its comment begins. */
public final class ReadmeRuns extends Check {
    private static final String NEW = "TornStreams x = new TornStreams();";
    private static final Pattern EXAMPLE = Pattern.compile("(?s)```java\n(.*?)```");
    private static final Pattern WRITE = Pattern.compile("write\\(x, \"(.*)\"\\);");
    private static final Pattern CALL = Pattern.compile("x\\.(\\w+)\\(([-\\d, ]*)\\);\\s+// (-?\\d+): .*");
    private static final int FEWEST_CALLS = 20;

    private static int calls = 0;

    private static void example(String lines) throws Exception {
        TornStreams x = new TornStreams();
        for (String line : lines.split("\n")) {
            Matcher write = WRITE.matcher(line);
            Matcher call = CALL.matcher(line);
            if (write.matches()) {
                write(x, write.group(1));
            } else if (call.matches()) {
                calls++;
                due(line, answer(x, call.group(1), call.group(2)), Long.parseLong(call.group(3)));
            } else {
                sameText("a line that is no call", line, NEW);
            }
        }
    }

    private static long answer(TornStreams x, String name, String arguments) throws Exception {
        List<Object> values = new ArrayList<>();
        for (String argument : arguments.isEmpty() ? new String[0] : arguments.split(", ")) {
            values.add(Integer.parseInt(argument));
        }
        Class<?>[] types = new Class<?>[values.size()];
        Arrays.fill(types, int.class);
        Method method = TornStreams.class.getMethod(name, types);
        return ((Number) method.invoke(x, values.toArray())).longValue();
    }

    // The table of calls has each method of the face, and no other.
    private static void table(String readme) {
        Set<String> told = new TreeSet<>();
        for (String line : readme.split("\n")) {
            String[] cells = line.split("\\|");
            if (cells.length == 3 && cells[2].matches(" (`\\w+`(, )?)+ ")) {
                told.addAll(Arrays.asList(cells[2].trim().replace("`", "").split(", ")));
            }
        }
        Set<String> face = new TreeSet<>();
        for (Method method : TornStreams.class.getDeclaredMethods()) {
            if (Modifier.isPublic(method.getModifiers())) {
                face.add(method.getName());
            }
        }
        sameText("the table of calls", told.toString(), face.toString());
    }

    public static void main(String[] args) throws Exception {
        says("README.md says how to use the class");
        String readme = Files.readString(Path.of("README.md"));
        Matcher examples = EXAMPLE.matcher(readme);
        while (examples.find()) {
            if (examples.group(1).startsWith(NEW)) {
                example(examples.group(1));
            }
        }
        due("the examples have calls", calls >= FEWEST_CALLS ? 1 : 0, 1);
        table(readme);
        end();
    }
}
