import java.io.IOException;
import java.lang.reflect.Field;
import java.lang.reflect.Method;
import java.lang.reflect.Modifier;
import java.nio.file.Files;
import java.nio.file.Path;
import java.util.Set;
import java.util.TreeSet;
import java.util.regex.Matcher;
import java.util.regex.Pattern;

/** The face of the class, and those rules of LANGUAGE.md that can be seen without a parser. */
public final class RulesTest {
    private static final Set<String> FACE = Set.of(
        "node(int)", "width(int,int)", "arc(int,int)", "drop(int)", "clear()",
        "turns()", "turned(int)", "layer(int)", "layers()", "length()", "bends()",
        "run(int)", "round()", "count(int)", "item(int,int)", "fewest()",
        "place(int)", "route(int,int)", "wide()", "tidy(int)");

    private static int wrong = 0;

    private static void check(boolean holds, String what) {
        if (!holds) {
            wrong++;
            System.out.println("broken: " + what);
        }
    }

    public static void main(String[] args) throws IOException {
        checkFace();
        checkInside();
        checkSource(Files.readString(Path.of("src/main/java/LayerDrawing.java")));
        System.out.println(wrong == 0 ? "the rules hold" : wrong + " rules are broken");
        if (wrong != 0) {
            System.exit(1);
        }
    }

    private static void checkFace() {
        Class<?> type = LayerDrawing.class;
        check(Modifier.isFinal(type.getModifiers()) && Modifier.isPublic(type.getModifiers()), "public and final");
        check(type.getDeclaredConstructors().length == 1 && type.getConstructors().length == 1, "one constructor");
        Set<String> found = new TreeSet<>();
        for (Method m : type.getDeclaredMethods()) {
            if (!Modifier.isPrivate(m.getModifiers())) {
                check(m.getReturnType() == int.class && !Modifier.isStatic(m.getModifiers()), m.toString());
                found.add(m.toString().replaceAll(".*LayerDrawing\\.", ""));
            }
        }
        check(found.equals(new TreeSet<>(FACE)), "the face is " + found);
    }

    private static void checkInside() {
        checkMembers(LayerDrawing.class);
        Class<?>[] inside = LayerDrawing.class.getDeclaredClasses();
        check(inside.length < 12, "some twelve classes");
        for (Class<?> c : inside) {
            check(Modifier.isStatic(c.getModifiers()) && !Modifier.isPublic(c.getModifiers()), c + " is static");
            checkMembers(c);
        }
    }

    private static void checkMembers(Class<?> type) {
        int fields = 0;
        for (Field f : type.getDeclaredFields()) {
            boolean fixed = Modifier.isStatic(f.getModifiers());
            check(!fixed || Modifier.isFinal(f.getModifiers()) && f.getType() == int.class, f + " is a constant");
            check(type != LayerDrawing.class || Modifier.isPrivate(f.getModifiers()), f + " is private");
            fields += fixed ? 0 : 1;
        }
        check(fields <= 20, "some twenty fields in " + type);
        for (Method m : type.getDeclaredMethods()) {
            boolean face = type == LayerDrawing.class && Modifier.isPublic(m.getModifiers());
            boolean named = FACE.stream().anyMatch(f -> f.startsWith(m.getName() + "("));
            check(face || !named, m + " bears the name of a public one");
            check(m.getParameterCount() <= 7, m + " takes seven parameters");
        }
    }

    private static void checkSource(String source) {
        String code = source.replaceAll("(?s)/\\*.*?\\*/", "").replaceAll("//.*", "");
        String[] banned = {"throw", "throws", "try", "catch", "synchronized", "assert", "package", "protected",
            "System\\.(?!arraycopy)\\w+", "Math\\.\\w+Exact", "Random", "Thread", "double", "float", "->", "::"};
        for (String word : banned) {
            Matcher m = Pattern.compile("(?<!\\w)" + word + "(?!\\w)").matcher(code);
            check(!m.find(), "no " + word);
        }
        Matcher imports = Pattern.compile("import ([^;]*);").matcher(code);
        while (imports.find()) {
            check(imports.group(1).equals("java.util.Arrays"), "import " + imports.group(1));
        }
        // Rows are made with the object alone: calls that made some would fill the room.
        Matcher made = Pattern.compile("(?m)^.*\\bnew\\b.*$").matcher(code);
        while (made.find()) {
            String line = made.group().trim();
            check(line.startsWith("final ") || line.matches("\\w+ = new [A-Z]\\w+\\(\\);"), "made in a call: " + line);
        }
    }
}
