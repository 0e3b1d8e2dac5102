import java.lang.reflect.Constructor;
import java.lang.reflect.Field;
import java.lang.reflect.Method;
import java.lang.reflect.Modifier;
import java.nio.file.Files;
import java.nio.file.Path;
import java.util.Arrays;
import java.util.List;
import java.util.Set;
import java.util.TreeSet;
import java.util.regex.Matcher;
import java.util.regex.Pattern;

/** The rules of LANGUAGE.md that can be seen from outside, over the class and its source. Run at the project's root. */
public final class LanguageTest {
    private static final String FACE = "feed/5 end/1 burn/1 boot/5 off/0 cut/1 run/1 press/2 type/1 level/2 hold/2 "
            + "restart/1 count/1 process/2 register/2 memory/1 entry/3 upcall/3 grant/2 out/1 lamp/1 event/2 stored/3 "
            + "audit/0";

    public static void main(String[] args) throws Exception {
        face();
        members();
        source(Files.readString(Path.of("src/main/java/GrantBoard.java")));
        Check.finish();
    }

    private static void face() {
        Check.due("NONE", GrantBoard.NONE, -1);
        Check.due("OUTSIDE", GrantBoard.OUTSIDE, -2);
        Check.due("STATE", GrantBoard.STATE, -3);
        Check.due("LOST", GrantBoard.LOST, -4);
        Set<String> face = new TreeSet<>(Arrays.asList(FACE.split(" ")));
        Set<String> found = new TreeSet<>();
        for (Method m : GrantBoard.class.getDeclaredMethods()) {
            if (!Modifier.isPrivate(m.getModifiers())) {
                found.add(m.getName() + "/" + m.getParameterCount());
                Check.holds(m.getName() + " is public", Modifier.isPublic(m.getModifiers()));
                Check.holds(m.getName() + " answers an int", m.getReturnType() == int.class);
            }
        }
        Check.holds("methods " + found, found.equals(face));
        Set<String> constants = new TreeSet<>();
        for (Field f : GrantBoard.class.getDeclaredFields()) {
            if (!Modifier.isPrivate(f.getModifiers())) {
                constants.add(f.getName());
            }
        }
        Check.holds("constants " + constants, constants.equals(new TreeSet<>(List.of("NONE", "OUTSIDE", "STATE", "LOST"))));
        Constructor<?>[] made = GrantBoard.class.getDeclaredConstructors();
        Check.holds("one constructor", made.length == 1 && made[0].getParameterCount() == 0);
        Check.holds("final", Modifier.isFinal(GrantBoard.class.getModifiers()));
    }

    private static void members() {
        Class<?>[] inside = GrantBoard.class.getDeclaredClasses();
        Check.holds("at most twelve classes: " + (inside.length + 1), inside.length + 1 <= 12);
        Set<String> names = new TreeSet<>();
        for (String s : FACE.split(" ")) {
            names.add(s.substring(0, s.indexOf('/')));
        }
        look(GrantBoard.class, names);
        for (Class<?> c : inside) {
            Check.holds(c.getName() + " is static", Modifier.isStatic(c.getModifiers()));
            Check.holds(c.getName() + " holds no class", c.getDeclaredClasses().length == 0);
            look(c, names);
        }
    }

    private static void look(Class<?> c, Set<String> names) {
        int fields = 0;
        for (Field f : c.getDeclaredFields()) {
            if (Modifier.isStatic(f.getModifiers())) {
                Check.holds(c.getName() + "." + f.getName() + " is final", Modifier.isFinal(f.getModifiers()));
            } else {
                fields++;
            }
        }
        Check.holds(c.getName() + " has some twenty fields at most: " + fields, fields <= 20);
        for (Method m : c.getDeclaredMethods()) {
            Check.holds(m.getName() + " takes at most seven", m.getParameterCount() <= 7);
            boolean ofTheFace = c == GrantBoard.class && Modifier.isPublic(m.getModifiers());
            Check.holds(c.getName() + "." + m.getName() + " bears no public name", ofTheFace || !names.contains(m.getName()));
        }
    }

    private static void source(String text) {
        String code = text.replaceAll("(?s)/\\*.*?\\*/", "").replaceAll("//[^\n]*", "");
        String[] words = {"throw", "throws", "try", "catch", "synchronized", "assert", "Exact", "enum", "->", "::",
            "double", "float", "equals", "hashCode", "toString", "System.out", "System.current", "System.nano", "native"};
        for (String w : words) {
            String edge = Character.isLetter(w.charAt(0)) && !w.equals("Exact") ? "\\b" : "";
            Check.holds("no " + w, !Pattern.compile(edge + Pattern.quote(w) + edge).matcher(code).find());
        }
        Matcher imports = Pattern.compile("import ([\\w.]+);").matcher(code);
        while (imports.find()) {
            Check.holds("import " + imports.group(1), imports.group(1).equals("java.util.Arrays"));
        }
        Matcher calls = Pattern.compile("\\b(Arrays|System|Math|Integer|Long)\\.(\\w+)").matcher(code);
        Set<String> allowed = Set.of("Arrays.fill", "System.arraycopy", "Math.max", "Math.min", "Arrays.copyOf");
        while (calls.find()) {
            Check.holds("library " + calls.group(), allowed.contains(calls.group()) || calls.group(2).equals("Arrays"));
        }
        methodsAreShort(text);
        nothingIsMadeLater(code);
    }

    private static void methodsAreShort(String text) {
        String[] lines = text.split("\n");
        for (int i = 0; i < lines.length; i++) {
            if (lines[i].matches("( {4}| {8})[^ /*].*\\) \\{") && !lines[i].contains(" class ")) {
                String indent = lines[i].replaceAll("\\S.*", "");
                int end = i;
                while (!lines[end].equals(indent + "}")) {
                    end++;
                }
                Check.holds("line " + (i + 1) + ": " + (end - i + 1) + " lines", end - i + 1 <= 60);
            }
        }
        for (String line : lines) {
            Check.holds("a line of at most 120: " + line, line.length() <= 120);
        }
    }

    /** Rule 12 and the room: objects come into being in constructors and as fields are set up, nowhere else. */
    private static void nothingIsMadeLater(String code) {
        String[] lines = code.split("\n");
        boolean inConstructor = false;
        for (String line : lines) {
            if (line.matches("( {4}| {8})\\S.*\\) \\{")) {
                inConstructor = line.trim().matches("(public )?[A-Z]\\w*\\(.*\\) \\{");
            }
            if (line.contains("new ")) {
                boolean field = line.matches(" +final .*= new .*;");
                Check.holds("made later: " + line.trim(), inConstructor || field);
            }
        }
    }
}
