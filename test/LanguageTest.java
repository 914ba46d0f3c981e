import java.lang.reflect.Field;
import java.lang.reflect.Method;
import java.lang.reflect.Modifier;
import java.nio.charset.StandardCharsets;
import java.nio.file.Files;
import java.nio.file.Path;
import java.util.ArrayList;
import java.util.HashSet;
import java.util.List;
import java.util.Set;

/** The face of the document, and those rules of ../shared/LANGUAGE.md that can be seen from outside. */
public final class LanguageTest {
    public static void main(String[] args) throws Exception {
        constants();
        face();
        names();
        fieldsAndClasses();
        source();
        Check.end();
    }

    private static void constants() {
        Check.same("the constants", "-1 1 2 3 4 0 1 2 0 1 2 3 4", MulePostBishops.NONE + " " + MulePostBishops.SYNTAX + " "
                + MulePostBishops.OUT_OF_RANGE + " " + MulePostBishops.OCCUPIED + " " + MulePostBishops.TOO_MANY + " "
                + MulePostBishops.WAITING + " " + MulePostBishops.UNDER_WAY + " " + MulePostBishops.ARRIVED + " "
                + MulePostBishops.MAY_MOVE + " " + MulePostBishops.GAME_OVER + " " + MulePostBishops.NOT_POSTED + " "
                + MulePostBishops.IN_QUEUE + " " + MulePostBishops.ON_THE_WAY);
    }

    private static List<Class<?>> classes() {
        List<Class<?>> all = new ArrayList<>();
        all.add(MulePostBishops.class);
        all.addAll(List.of(MulePostBishops.class.getDeclaredClasses()));
        return all;
    }

    /** Everything in the outer class that is not private stands in the document, and the other way round. */
    private static void face() throws Exception {
        Set<String> due = new HashSet<>();
        boolean inside = false;
        for (String line : Files.readAllLines(Path.of("../shared/DOC.md"))) {
            inside = inside ? !line.startsWith("```") : line.startsWith("```java");
            if (inside && line.startsWith("    public ") && !line.contains("MulePostBishops()")) {
                due.add(line.strip().replaceAll(" = .*| throws .*|;", "").replaceAll("(int|boolean) [a-zA-Z]+(?=[,)])", "$1"));
            }
        }
        Check.same("the number of members in the document", 13 + 57, due.size());
        Set<String> got = new HashSet<>();
        for (Method m : MulePostBishops.class.getDeclaredMethods()) {
            if (!Modifier.isPrivate(m.getModifiers())) {
                List<String> types = new ArrayList<>();
                for (Class<?> type : m.getParameterTypes()) {
                    types.add(type.getName());
                }
                got.add("public " + m.getReturnType().getName() + " " + m.getName() + "(" + String.join(", ", types) + ")");
            }
        }
        for (Field f : MulePostBishops.class.getDeclaredFields()) {
            if (!Modifier.isPrivate(f.getModifiers())) {
                got.add(Modifier.toString(f.getModifiers()) + " " + f.getType().getName() + " " + f.getName());
            }
        }
        Check.same("the face", due, got);
        Check.same("the class", Modifier.PUBLIC | Modifier.FINAL, MulePostBishops.class.getModifiers());
        Check.same("the constructors", 1, MulePostBishops.class.getDeclaredConstructors().length);
    }

    private static void names() {
        Set<String> face = new HashSet<>();
        for (Method m : MulePostBishops.class.getMethods()) {
            face.add(m.getName());
        }
        for (Class<?> c : classes()) {
            for (Method m : c.getDeclaredMethods()) {
                boolean outside = c == MulePostBishops.class && Modifier.isPublic(m.getModifiers());
                Check.same(c.getName() + "." + m.getName() + " bears a public name", false, !outside && face.contains(m.getName()));
                Check.same(c.getName() + "." + m.getName() + " has few parameters", true, m.getParameterCount() <= 7);
            }
        }
    }

    private static void fieldsAndClasses() {
        Check.same("few classes", true, classes().size() <= 12);
        for (Class<?> c : classes()) {
            int fields = 0;
            for (Field f : c.getDeclaredFields()) {
                if (Modifier.isStatic(f.getModifiers())) {
                    Check.same(f + " is final", true, Modifier.isFinal(f.getModifiers()));
                } else {
                    fields++;
                }
            }
            Check.same(c + " has few fields", true, fields <= 20);
            Check.same(c + " is static", true, c == MulePostBishops.class || Modifier.isStatic(c.getModifiers()));
            Check.same(c + " is not public", true, c == MulePostBishops.class || !Modifier.isPublic(c.getModifiers()));
        }
    }

    private static void source() throws Exception {
        String text = Files.readString(Path.of("src/main/java/MulePostBishops.java"), StandardCharsets.ISO_8859_1);
        Check.same("signs of ASCII alone", true, text.chars().allMatch(sign -> sign == 10 || sign >= 32 && sign < 127));
        String code = text.replaceAll("/\\*(?s:.*?)\\*/", "").replaceAll("//.*", "").replaceAll("\"[^\"\n]*\"", "\"\"");
        String[] absent = {"->", "::", "try", "catch", "finally", "synchronized", "assert", "package", "equals", "hashCode",
            "toString", "System.out", "System.in", "System.nano", "System.current", "Random", "Thread", "ordinal", "addExact",
            "static {", "interface", "record", "\"\" +", "+ \"\"", "while (true)", "for (;;)"};
        for (String word : absent) {
            Check.same("the source without " + word, false,
                    word.matches("[a-zA-Z]+") ? code.matches("(?s).*\\b" + word + "\\b.*") : code.contains(word));
        }
        for (String line : code.split("\n")) {
            if (line.startsWith("import ")) {
                Check.same(line, true, line.equals("import java.util.Arrays;") || line.equals("import java.util.NoSuchElementException;"));
            }
        }
        methodLengths(code.split("\n"));
    }

    /** A method begins and ends at the indentation of a member. */
    private static void methodLengths(String[] lines) {
        int start = 0;
        int methods = 0;
        for (int i = 0; i < lines.length; i++) {
            if (lines[i].matches("( {4}| {8})[a-zA-Z].*[({,] *$") && !lines[i].contains(" class ")) {
                start = i;
            } else if (lines[i].matches("( {4}| {8})}")) {
                methods++;
                Check.same("the method that ends in line " + (i + 1) + " is short", true, i - start <= 60);
                start = i;
            }
        }
        Check.same("methods were found", true, methods > 100);
    }
}
