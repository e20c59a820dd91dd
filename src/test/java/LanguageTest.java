import java.lang.reflect.Constructor;
import java.lang.reflect.Field;
import java.lang.reflect.Method;
import java.lang.reflect.Modifier;
import java.nio.file.Files;
import java.nio.file.Path;
import java.util.ArrayList;
import java.util.Arrays;
import java.util.List;
import java.util.Set;
import java.util.TreeSet;
import java.util.regex.Matcher;
import java.util.regex.Pattern;

/** The public face of the document, and those rules of LANGUAGE.md that can be seen from outside. */
public final class LanguageTest {
    private static final Due DUE = new Due();
    private static final String[] FORBIDDEN = {"throw", "throws", "try", "catch", "finally", "synchronized",
        "assert", "protected", "native", "volatile", "transient", "strictfp", "Object", "Thread", "Random",
        "Scanner", "File", "Exception", "Error", "hashCode", "package",
        "System\\.(?!arraycopy\\b)\\w+", "\\w+Exact", "->", "::", "static\\s*\\{",
        "java\\.(?!util\\.(Arrays|ArrayList|List|Iterator);)\\w+"};

    public static void main(String[] args) throws Exception {
        String source = Files.readString(Path.of("src/main/java/SowingHouse.java"));
        String document = Files.readString(Path.of("../shared/DOC.md"));
        face(document);
        classes();
        words(bare(source));
        methodLengths(bare(source));
        DUE.end();
    }

    private static void face(String document) {
        Set<String> due = new TreeSet<>();
        Matcher face = Pattern.compile("public (int|long) (\\w+)\\(([^)]*)\\);").matcher(document);
        while (face.find()) {
            due.add(face.group(1) + " " + face.group(2) + "(" + types(face.group(3)) + ")");
        }
        Set<String> found = new TreeSet<>();
        for (Method method : SowingHouse.class.getDeclaredMethods()) {
            if (!Modifier.isPrivate(method.getModifiers())) {
                DUE.holds("public, and not static: " + method,
                        Modifier.isPublic(method.getModifiers()) && !Modifier.isStatic(method.getModifiers()));
                List<String> types = new ArrayList<>();
                for (Class<?> type : method.getParameterTypes()) {
                    types.add(type.getName());
                }
                found.add(method.getReturnType().getName() + " " + method.getName() + "("
                        + String.join(",", types) + ")");
            }
        }
        DUE.is("methods that the document tells", due.size(), 42);
        DUE.holds("the face " + due + " is " + found, due.equals(found));
        for (Field field : SowingHouse.class.getDeclaredFields()) {
            DUE.holds("a private field, or BAD: " + field,
                    Modifier.isPrivate(field.getModifiers()) || field.getName().equals("BAD"));
        }
        DUE.is("constructors", SowingHouse.class.getDeclaredConstructors().length, 1);
        DUE.holds("the class is public and final",
                SowingHouse.class.getModifiers() == (Modifier.PUBLIC | Modifier.FINAL));
    }

    private static String types(String parameters) {
        List<String> types = new ArrayList<>();
        for (String parameter : parameters.split(",")) {
            if (!parameter.isBlank()) {
                types.add(parameter.trim().split("\\s+")[0]);
            }
        }
        return String.join(",", types);
    }

    private static void classes() {
        Set<String> faceNames = new TreeSet<>();
        for (Method method : SowingHouse.class.getMethods()) {
            faceNames.add(method.getName());
        }
        List<Class<?>> all = new ArrayList<>(Arrays.asList(SowingHouse.class.getDeclaredClasses()));
        for (Class<?> inside : all) {
            int modifiers = inside.getModifiers();
            DUE.holds("static, and not public: " + inside,
                    Modifier.isStatic(modifiers) && !Modifier.isPublic(modifiers));
        }
        all.add(SowingHouse.class);
        DUE.holds("some twelve classes", all.size() <= 12);
        for (Class<?> one : all) {
            members(one, faceNames);
        }
    }

    private static void members(Class<?> one, Set<String> faceNames) {
        int fields = 0;
        for (Field field : one.getDeclaredFields()) {
            boolean isStatic = Modifier.isStatic(field.getModifiers());
            fields += isStatic ? 0 : 1;
            DUE.holds("static fields are final: " + field, !isStatic || Modifier.isFinal(field.getModifiers()));
        }
        DUE.holds("some twenty fields: " + one, fields <= 20);
        for (Method method : one.getDeclaredMethods()) {
            DUE.holds("seven parameters: " + method, method.getParameterCount() <= 7);
            DUE.holds("no private one has a name of the face: " + method,
                    !Modifier.isPrivate(method.getModifiers()) || !faceNames.contains(method.getName()));
        }
        for (Constructor<?> constructor : one.getDeclaredConstructors()) {
            DUE.holds("seven parameters: " + constructor, constructor.getParameterCount() <= 7);
        }
    }

    /** The source without its comments, texts and characters, and without the arrows of a switch. */
    private static String bare(String source) {
        return source.replaceAll("(?s)/\\*.*?\\*/", "").replaceAll("//[^\n]*", "")
                .replaceAll("\"(\\\\.|[^\"\\\\])*\"", "TEXT").replaceAll("'(\\\\.|[^'\\\\])+'", "CHARACTER")
                .replaceAll("(case [^:\n]*?|default) ->", "$1:");
    }

    private static void words(String bare) {
        for (String word : FORBIDDEN) {
            String pattern = Character.isLetter(word.charAt(0)) ? "\\b" + word + "\\b" : word;
            Matcher matcher = Pattern.compile(pattern).matcher(bare);
            DUE.holds("without '" + word + "'", !matcher.find());
        }
        boolean other = Pattern.compile("Arrays\\.(?!(fill|copyOf|copyOfRange)\\b)")
                .matcher(bare.replace("java.util.Arrays", "")).find();
        DUE.holds("no call of Arrays but those that are listed", !other);
    }

    private static void methodLengths(String bare) {
        String[] lines = bare.split("\n");
        Pattern head = Pattern.compile("^( {4}| {8})(?! )[\\w<>\\[\\] ]+\\([^;=]*\\) \\{$");
        for (int i = 0; i < lines.length; i++) {
            Matcher matcher = head.matcher(lines[i]);
            if (matcher.matches()) {
                int end = i;
                while (end < lines.length && !lines[end].equals(matcher.group(1) + "}")) {
                    end++;
                }
                DUE.holds("some sixty lines: " + lines[i].trim(), end - i < 60);
            }
        }
    }
}
