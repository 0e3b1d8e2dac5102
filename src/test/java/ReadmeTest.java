import java.lang.reflect.Method;
import java.lang.reflect.Modifier;
import java.nio.file.Files;
import java.nio.file.Path;
import java.util.List;
import java.util.Set;
import java.util.TreeSet;
import java.util.regex.Matcher;
import java.util.regex.Pattern;
import java.util.stream.Stream;

/** Does the lines of Java that README.md shows, in their order. Run at the project's root. */
public final class ReadmeTest {
    private static final Pattern CALL = Pattern.compile("board\\.(\\w+)\\((.*?)\\); +// (-?\\w+)(:.*)?");
    private static final String MADE = "GrantBoard board = new GrantBoard();";

    private static final Set<String> called = new TreeSet<>();
    private static final Set<String> answered = new TreeSet<>();
    private static GrantBoard board;

    public static void main(String[] args) throws Exception {
        String text = Files.readString(Path.of("README.md"));
        boolean java = false;
        for (String line : text.lines().toList()) {
            if (line.startsWith("```")) {
                java = line.equals("```java");
            } else if (java) {
                play(line);
            }
        }
        everyCallIsShown();
        everyTestIsNamed(text);
        Check.holds("how to run the tests", text.contains("\n    .ci/run\n"));
        Check.finish();
    }

    private static void play(String line) throws Exception {
        if (line.equals(MADE)) {
            board = new GrantBoard();
            return;
        }
        Matcher m = CALL.matcher(line);
        if (board == null || !m.matches()) {
            Check.holds("a line that is no call of a board: " + line, false);
            return;
        }
        called.add(m.group(1));
        answered.add(m.group(3));
        Check.due(line, call(m.group(1), m.group(2)), number(m.group(3)));
    }

    private static int call(String name, String arguments) throws Exception {
        List<String> given = arguments.isEmpty() ? List.of() : List.of(arguments.split(", "));
        for (Method method : GrantBoard.class.getMethods()) {
            Class<?>[] types = method.getParameterTypes();
            if (method.getName().equals(name) && types.length == given.size()) {
                Object[] values = new Object[types.length];
                for (int i = 0; i < values.length; i++) {
                    values[i] = types[i] == boolean.class ? (Object) truth(given.get(i)) : (Object) number(given.get(i));
                }
                return (Integer) method.invoke(board, values);
            }
        }
        throw new IllegalArgumentException("GrantBoard has no " + name + "(" + arguments + ")");
    }

    private static boolean truth(String s) {
        if (!s.equals("true") && !s.equals("false")) {
            throw new IllegalArgumentException(s + " is neither true nor false");
        }
        return s.equals("true");
    }

    private static int number(String s) {
        switch (s.replace("GrantBoard.", "")) {
            case "NONE":
                return GrantBoard.NONE;
            case "OUTSIDE":
                return GrantBoard.OUTSIDE;
            case "STATE":
                return GrantBoard.STATE;
            case "LOST":
                return GrantBoard.LOST;
            default:
                return s.startsWith("0x") ? Integer.parseUnsignedInt(s.substring(2), 16) : Integer.parseInt(s);
        }
    }

    private static void everyCallIsShown() {
        for (Method method : GrantBoard.class.getDeclaredMethods()) {
            if (Modifier.isPublic(method.getModifiers())) {
                Check.holds("README.md shows " + method.getName(), called.contains(method.getName()));
            }
        }
        for (String name : List.of("NONE", "OUTSIDE", "STATE", "LOST")) {
            Check.holds("README.md shows an answer " + name, answered.contains(name));
        }
    }

    private static void everyTestIsNamed(String text) throws Exception {
        try (Stream<Path> files = Files.list(Path.of("src/test/java"))) {
            for (Path file : files.toList()) {
                String name = file.getFileName().toString().replace(".java", "");
                Check.holds("README.md names " + name, Pattern.compile("\\b" + name + "\\b").matcher(text).find());
            }
        }
    }
}
