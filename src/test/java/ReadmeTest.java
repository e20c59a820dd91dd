import java.io.IOException;
import java.lang.reflect.Method;
import java.nio.file.DirectoryStream;
import java.nio.file.Files;
import java.nio.file.Path;
import java.util.ArrayList;
import java.util.List;
import java.util.Set;
import java.util.TreeSet;
import java.util.regex.Matcher;
import java.util.regex.Pattern;

/** What README.md tells of calls and their answers, made on one object; and that it leaves no call and no test out. */
public final class ReadmeTest {
    private static final Due DUE = new Due();
    private static final Pattern CALL = Pattern.compile("^house\\.(\\w+)\\(([^)]*)\\);\\s+// (-?\\d+)(:.*)?$");

    public static void main(String[] args) throws ReflectiveOperationException, IOException {
        String readme = Files.readString(Path.of("README.md"));
        calls(readme);
        tests(readme);
        DUE.end();
    }

    private static void calls(String readme) throws ReflectiveOperationException {
        SowingHouse house = new SowingHouse();
        Set<String> told = new TreeSet<>();
        for (String line : readme.split("\\R")) {
            Matcher call = CALL.matcher(line);
            if (call.matches()) {
                told.add(call.group(1));
                DUE.is(line, answer(house, call.group(1), numbers(call.group(2))), Long.parseLong(call.group(3)));
            } else {
                DUE.holds("a call with its answer: " + line, !line.startsWith("house."));
            }
        }
        Set<String> face = new TreeSet<>();
        for (Method method : SowingHouse.class.getDeclaredMethods()) {
            if (java.lang.reflect.Modifier.isPublic(method.getModifiers())) {
                face.add(method.getName());
            }
        }
        DUE.holds("the calls that are told, " + told + ", are those of the face, " + face, told.equals(face));
    }

    private static List<Long> numbers(String arguments) {
        List<Long> numbers = new ArrayList<>();
        for (String argument : arguments.split(",")) {
            if (!argument.isBlank()) {
                numbers.add(Long.parseLong(argument.trim()));
            }
        }
        return numbers;
    }

    private static long answer(SowingHouse house, String name, List<Long> numbers) throws ReflectiveOperationException {
        for (Method method : SowingHouse.class.getDeclaredMethods()) {
            if (method.getName().equals(name)) {
                Object[] arguments = new Object[numbers.size()];
                for (int i = 0; i < arguments.length; i++) {
                    boolean isLong = method.getParameterTypes()[i] == long.class;
                    arguments[i] = isLong ? (Object) numbers.get(i) : (Object) numbers.get(i).intValue();
                }
                return ((Number) method.invoke(house, arguments)).longValue();
            }
        }
        DUE.holds("the face has " + name, false);
        return 0;
    }

    private static void tests(String readme) throws IOException {
        try (DirectoryStream<Path> files = Files.newDirectoryStream(Path.of("src/test/java"), "*.java")) {
            for (Path file : files) {
                String name = file.getFileName().toString().replace(".java", "");
                DUE.holds("the tests tell of " + name, readme.contains("`" + name + "`"));
            }
        }
    }
}
