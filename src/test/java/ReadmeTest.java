import java.io.IOException;
import java.lang.reflect.Method;
import java.nio.file.Files;
import java.nio.file.Path;
import java.util.List;
import java.util.Map;
import java.util.Set;
import java.util.TreeMap;
import java.util.TreeSet;
import java.util.regex.Matcher;
import java.util.regex.Pattern;
import java.util.stream.Collectors;
import java.util.stream.Stream;

/** README.md's example is run, call by call; the number that its remark begins with is what is due. */
public final class ReadmeTest {
    private static final Pattern CALL = Pattern.compile("x\\.(\\w+)\\((.*?)\\); +// (-?\\d+).*");

    public static void main(String[] args) throws IOException, ReflectiveOperationException {
        List<String> lines = Files.readAllLines(Path.of("README.md"));
        Map<String, Method> methods = publicMethods();
        example(lines, methods);
        names(lines, methods);
        Kit.finish();
    }

    private static Map<String, Method> publicMethods() {
        Map<String, Method> methods = new TreeMap<>();
        for (Method method : ParkingTrees.class.getMethods()) {
            if (method.getDeclaringClass() == ParkingTrees.class) {
                methods.put(method.getName(), method);
            }
        }
        return methods;
    }

    private static void example(List<String> lines, Map<String, Method> methods) throws ReflectiveOperationException {
        ParkingTrees x = new ParkingTrees();
        int run = 0;
        for (String line : lines) {
            Matcher call = CALL.matcher(line);
            Kit.due("a call without an answer: " + line, line.startsWith("x.") && !call.matches() ? 1 : 0, 0);
            if (call.matches()) {
                Method method = methods.get(call.group(1));
                Object got = method.invoke(x, arguments(method, call.group(2)));
                Kit.due(line, ((Number) got).longValue(), Long.parseLong(call.group(3)));
                run++;
            }
        }
        Kit.due("there is an example", run > 10 ? 1 : 0, 1);
    }

    private static Object[] arguments(Method method, String text) {
        Class<?>[] types = method.getParameterTypes();
        Object[] values = new Object[types.length];
        String[] parts = text.split(", ");
        for (int i = 0; i < types.length; i++) {
            long value = Long.decode(parts[i]);
            values[i] = types[i] == long.class ? (Object) value : (Object) (int) value;
        }
        return values;
    }

    /** The first column of the tables names each call once, and each test of the project. */
    private static void names(List<String> lines, Map<String, Method> methods) throws IOException {
        Set<String> named = new TreeSet<>();
        Set<String> tests = new TreeSet<>();
        Pattern first = Pattern.compile("\\| `([\\w ]+)` \\|.*");
        for (String line : lines) {
            Matcher row = first.matcher(line);
            if (row.matches()) {
                for (String name : row.group(1).split(" ")) {
                    Set<String> kind = name.endsWith("Test") ? tests : named;
                    Kit.due(name + " is named once", kind.add(name) ? 1 : 0, 1);
                }
            }
        }
        Kit.due("calls named: " + named, named.equals(methods.keySet()) ? 1 : 0, 1);
        try (Stream<Path> files = Files.list(Path.of("src/test/java"))) {
            Set<String> found = files.map(file -> file.getFileName().toString().replace(".java", ""))
                .filter(name -> name.endsWith("Test")).collect(Collectors.toSet());
            Kit.due("tests named: " + tests, tests.equals(found) ? 1 : 0, 1);
        }
    }
}
