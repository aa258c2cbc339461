import java.io.IOException;
import java.lang.reflect.Constructor;
import java.lang.reflect.Field;
import java.lang.reflect.Method;
import java.lang.reflect.Modifier;
import java.nio.file.Files;
import java.nio.file.Path;
import java.util.Arrays;
import java.util.HashSet;
import java.util.List;
import java.util.Set;
import java.util.TreeSet;
import java.util.regex.Matcher;
import java.util.regex.Pattern;
import java.util.stream.Collectors;

/** The public face of ../shared/DOC.md, and those rules of ../shared/LANGUAGE.md that can be counted. */
public final class FaceTest {
    private static final Path DOC = Path.of("../shared/DOC.md");
    private static final Path SOURCE = Path.of("src/main/java/TankBehind.java");

    private FaceTest() {
    }

    public static void main(String[] args) throws IOException {
        Class<?> face = TankBehind.class;
        members(face);
        names(face);
        sizes(face);
        statics(face);
        words();
        methods();
        Expect.finish("FaceTest");
    }

    private static void holds(String what, boolean is) {
        Expect.due(what, is, true);
    }

    private static void members(Class<?> face) throws IOException {
        Set<String> want = new TreeSet<>();
        String doc = Files.readString(DOC);
        int from = doc.indexOf("public final class TankBehind {");
        for (String line : doc.substring(from, doc.indexOf("\n}", from)).split("\n")) {
            Matcher method = Pattern.compile(" {4}public (\\w+) (\\w+)\\((.*)\\);").matcher(line);
            if (method.matches()) {
                String types = Arrays.stream(method.group(3).split(", ")).filter(p -> !p.isEmpty())
                    .map(p -> p.substring(0, p.indexOf(' '))).collect(Collectors.joining(","));
                want.add(method.group(1) + " " + method.group(2) + "(" + types + ")");
            }
        }
        Set<String> got = new TreeSet<>();
        for (Method method : face.getDeclaredMethods()) {
            if (Modifier.isPublic(method.getModifiers())) {
                String types = Arrays.stream(method.getParameterTypes()).map(Class::getName)
                    .collect(Collectors.joining(","));
                got.add(method.getReturnType() + " " + method.getName() + "(" + types + ")");
            } else {
                holds(method + " is private", Modifier.isPrivate(method.getModifiers()));
            }
        }
        holds("the methods " + got + " are those of the document " + want, got.equals(want) && got.size() == 48);
        for (Field field : face.getDeclaredFields()) {
            boolean isPublic = field.getName().equals("NONE");
            holds(field + " is private", isPublic || Modifier.isPrivate(field.getModifiers()));
        }
        Constructor<?>[] constructors = face.getDeclaredConstructors();
        holds("one public constructor", constructors.length == 1 && Modifier.isPublic(constructors[0].getModifiers()));
        holds("public and final", face.getModifiers() == (Modifier.PUBLIC | Modifier.FINAL));
        for (Class<?> inside : face.getDeclaredClasses()) {
            holds(inside + " is static", Modifier.isStatic(inside.getModifiers()));
            holds(inside + " is not public", (inside.getModifiers() & (Modifier.PUBLIC | Modifier.PROTECTED)) == 0);
        }
    }

    private static void names(Class<?> face) {
        Set<String> open = new HashSet<>();
        for (Method method : face.getDeclaredMethods()) {
            if (Modifier.isPublic(method.getModifiers())) {
                open.add(method.getName());
            }
        }
        for (Class<?> inside : all(face)) {
            for (Method method : inside.getDeclaredMethods()) {
                boolean isOfFace = inside == face && Modifier.isPublic(method.getModifiers());
                holds(method + " bears no public name", isOfFace || !open.contains(method.getName()));
            }
        }
    }

    private static List<Class<?>> all(Class<?> face) {
        List<Class<?>> all = new java.util.ArrayList<>(Arrays.asList(face.getDeclaredClasses()));
        all.add(face);
        return all;
    }

    private static void sizes(Class<?> face) {
        holds("at most 12 classes", all(face).size() <= 12);
        for (Class<?> inside : all(face)) {
            long fields = Arrays.stream(inside.getDeclaredFields())
                .filter(field -> !Modifier.isStatic(field.getModifiers())).count();
            holds(inside + " has at most 20 fields", fields <= 20);
            for (Method method : inside.getDeclaredMethods()) {
                holds(method + " takes at most 7", method.getParameterCount() <= 7);
            }
        }
    }

    private static void statics(Class<?> face) {
        for (Class<?> inside : all(face)) {
            for (Field field : inside.getDeclaredFields()) {
                if (Modifier.isStatic(field.getModifiers())) {
                    Class<?> type = field.getType();
                    holds(field + " is final", Modifier.isFinal(field.getModifiers()));
                    holds(field + " is a number or a text", type.isPrimitive() || type == String.class);
                }
            }
        }
    }

    private static String code() throws IOException {
        String source = Files.readString(SOURCE);
        holds("signs 1 to 127", source.chars().allMatch(sign -> sign > 0 && sign < 128));
        return source.replaceAll("(?s)/\\*.*?\\*/", "").replaceAll("//[^\n]*", "").replaceAll("\"[^\"]*\"", "\"\"");
    }

    private static void words() throws IOException {
        String code = code();
        for (String word : List.of("throw", "throws", "try", "catch", "finally", "synchronized", "assert", "package",
            "volatile", "native", "goto", "record", "sealed", "var", "yield", "System", "Object", "Thread", "Random")) {
            holds("no " + word, !Pattern.compile("\\b" + word + "\\b").matcher(code).find());
        }
        holds("no lambda, no method reference", !code.contains("->") && !code.contains("::"));
        Matcher imports = Pattern.compile("import ([^;]+);").matcher(code);
        while (imports.find()) {
            String name = imports.group(1);
            holds("import " + name, List.of("java.util.Arrays", "java.util.ArrayList", "java.util.List").contains(name));
        }
    }

    private static void methods() throws IOException {
        String[] lines = Files.readString(SOURCE).split("\n");
        int begin = 0;
        for (int i = 0; i < lines.length; i++) {
            if (lines[i].matches(" {4}( {4})?\\S.*\\) \\{")) {
                begin = i;
            } else if (lines[i].matches(" {4}( {4})?\\}")) {
                holds("method at line " + (begin + 1) + " is short", begin == 0 || i - begin < 60
                    || lines[i].matches(" {4}\\}"));
            }
            holds("line " + (i + 1) + " is short", lines[i].length() <= 120);
        }
    }
}
