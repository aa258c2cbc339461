import java.io.IOException;
import java.nio.file.Files;
import java.nio.file.Path;
import java.util.HashSet;
import java.util.Set;
import java.util.TreeSet;
import java.util.regex.Matcher;
import java.util.regex.Pattern;

/** What README.md says of the use: its lines of Java stand here too, and answer as they say; its table names each call. */
public final class ReadmeTest {
    private ReadmeTest() {
    }

    public static void main(String[] args) throws IOException {
        String readme = Files.readString(Path.of("README.md"));
        use();
        linesStandHere(readme);
        tableNamesEachCall(readme);
        Expect.finish("ReadmeTest");
    }

    private static void use() {
        TankBehind x = new TankBehind();
        int person = x.person(TankBehind.NONE);
        int kind = x.kind(0, 900, 500, 100);
        int car = x.car(kind, 0, person);
        int burns = x.burns(car, 0, 0, 31, TankBehind.NONE);
        int early = x.car(kind, 1, person);
        boolean later = x.clock(2);
        Expect.due("person", person, 0);
        Expect.due("kind", kind, 0);
        Expect.due("car", car, 0);
        Expect.due("burns", burns, 1);
        Expect.due("early", early, -1);
        Expect.due("later", later, true);
        int bytes = x.feed(0x63726173, 0x68203020, 0x3230202b, 0x206d6f6e, 0x74680000);
        int length = x.end(18);
        int rule = x.rule(2);
        int must = x.must(kind, 0, 2);
        x.feed(0x67697665, 0x203f0000, 0, 0, 0);
        x.end(6);
        int fault = x.rule(2);
        Expect.due("bytes", bytes, 20);
        Expect.due("length", length, 18);
        Expect.due("rule", rule, 0);
        Expect.due("must", must, 22);
        Expect.due("fault", fault, -43);
        Expect.due("the tape behind a fault", x.count(11), 0);
    }

    private static void linesStandHere(String readme) throws IOException {
        Set<String> here = new HashSet<>();
        for (String line : Files.readString(Path.of("src/test/java/ReadmeTest.java")).split("\n")) {
            here.add(line.strip());
        }
        int lines = 0;
        Matcher block = Pattern.compile("(?s)```java\n(.*?)```").matcher(readme);
        while (block.find()) {
            for (String line : block.group(1).split("\n")) {
                String code = line.replaceAll("//.*", "").strip();
                lines++;
                Expect.due("README.md's \"" + code + "\" is run", here.contains(code), true);
            }
        }
        Expect.due("lines of Java in README.md", lines, 14);
    }

    private static void tableNamesEachCall(String readme) {
        String use = readme.substring(readme.indexOf("| what is told |"), readme.indexOf("## Tests"));
        Set<String> face = new TreeSet<>();
        for (java.lang.reflect.Method method : TankBehind.class.getDeclaredMethods()) {
            if (java.lang.reflect.Modifier.isPublic(method.getModifiers())) {
                face.add(method.getName());
            }
        }
        Set<String> named = new TreeSet<>();
        Matcher name = Pattern.compile("`(\\w+)`").matcher(use);
        while (name.find()) {
            named.add(name.group(1));
        }
        named.remove("NONE");
        Expect.due("the calls named " + named + " are those of the face " + face, named.equals(face), true);
    }
}
