import java.io.PrintWriter;
import java.io.StringWriter;
import java.util.ArrayList;
import java.util.HashMap;
import java.util.HashSet;
import java.util.LinkedHashMap;
import java.util.List;
import java.util.Map;
import java.util.Optional;
import java.util.Set;
import java.util.TreeSet;
import java.util.regex.Matcher;
import java.util.regex.Pattern;
import java.util.spi.ToolProvider;

/**
 * Those rules of LANGUAGE.md that are plainest in the compiled class: what it calls of the library, how deep calls go,
 * and that no method comes back to itself.
 */
public final class CallsTest {
    private static final Due DUE = new Due();
    private static final int MOST_DEEP = 8;
    private static final Set<String> LISTED = Set.of("java/lang/Object.<init>", "java/lang/System.arraycopy",
            "java/util/Arrays.fill", "java/util/Arrays.copyOf", "java/util/Arrays.copyOfRange",
            "java/lang/Math.min", "java/lang/Math.max", "java/lang/Math.abs", "java/lang/Math.floorDiv",
            "java/lang/Math.floorMod");
    private static final Pattern HEAD = Pattern.compile("^  (?:\\S+ )*([\\w$]+)\\([^)]*\\);$");
    private static final Pattern DESCRIPTOR = Pattern.compile("^    descriptor: (\\S+)$");
    private static final Pattern INVOKED =
            Pattern.compile("\\binvoke(\\w+) .*// (?:Interface)?Method (?:([\\w$/]+)\\.)?(\"<init>\"|\\w+):(\\S+)$");

    private final Map<String, List<String>> calls = new LinkedHashMap<>();
    private final Map<String, Integer> depths = new HashMap<>();
    private final Set<String> open = new HashSet<>();

    public static void main(String[] args) {
        Optional<ToolProvider> reader = ToolProvider.findFirst("javap");
        if (reader.isEmpty()) {
            System.out.println("no javap here: nothing was looked at");
            return;
        }
        CallsTest test = new CallsTest();
        test.read(reader.get(), "SowingHouse");
        for (Class<?> inside : SowingHouse.class.getDeclaredClasses()) {
            test.read(reader.get(), inside.getName());
        }
        test.looked();
        DUE.end();
    }

    private void looked() {
        DUE.holds("methods were read", calls.size() > 60);
        DUE.holds("calls were read", calls.get("SowingHouse.goOn(I)I").size() > 3);
        Set<String> outside = new TreeSet<>();
        int deepest = 0;
        for (String method : calls.keySet()) {
            for (String called : calls.get(method)) {
                if (!calls.containsKey(called)) {
                    outside.add(called.substring(0, called.indexOf('(')));
                }
            }
            deepest = Math.max(deepest, depth(method));
        }
        for (String one : outside) {
            DUE.holds("rule 4 lists " + one, LISTED.contains(one));
        }
        DUE.holds("rule 11: calls go " + deepest + " deep", deepest <= MOST_DEEP);
    }

    /** A method of the class's own that calls nothing is one deep. */
    private int depth(String method) {
        Integer known = depths.get(method);
        if (known != null) {
            return known;
        }
        DUE.holds("no recursion: " + method, open.add(method));
        int deepest = 0;
        for (String called : calls.get(method)) {
            if (calls.containsKey(called) && !open.contains(called)) {
                deepest = Math.max(deepest, depth(called));
            } else {
                DUE.holds("no recursion: " + method + " calls " + called, !open.contains(called));
            }
        }
        open.remove(method);
        depths.put(method, deepest + 1);
        return deepest + 1;
    }

    private void read(ToolProvider reader, String name) {
        StringWriter text = new StringWriter();
        PrintWriter writer = new PrintWriter(text);
        String path = System.getProperty("java.class.path");
        DUE.is("javap of " + name, reader.run(writer, writer, "-c", "-p", "-s", "-cp", path, name), 0);
        writer.flush();
        String head = "";
        List<String> called = new ArrayList<>();
        for (String line : text.toString().split("\\R")) {
            Matcher headMatcher = HEAD.matcher(line);
            Matcher descriptor = DESCRIPTOR.matcher(line);
            Matcher invoked = INVOKED.matcher(line);
            if (headMatcher.matches()) {
                head = headMatcher.group(1).equals(name) ? "<init>" : headMatcher.group(1);
            } else if (descriptor.matches() && descriptor.group(1).startsWith("(")) {
                called = new ArrayList<>();
                calls.put(name + "." + head + descriptor.group(1), called);
            } else if (invoked.find()) {
                String owner = invoked.group(2) == null ? name : invoked.group(2);
                called.add(owner + "." + invoked.group(3).replace("\"", "") + invoked.group(4));
            }
            DUE.holds(name + " has no invokedynamic, no throw and no lock: " + line.trim(),
                    !line.matches(".*\\b(invokedynamic|athrow|monitorenter|checkcast|instanceof)\\b.*"));
        }
        DUE.holds(name + " has no table of exceptions", !text.toString().contains("Exception table"));
    }
}
