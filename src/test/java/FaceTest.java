import java.io.IOException;
import java.lang.reflect.Constructor;
import java.lang.reflect.Field;
import java.lang.reflect.Method;
import java.lang.reflect.Modifier;
import java.nio.file.Files;
import java.nio.file.Path;
import java.util.List;
import java.util.Set;
import java.util.TreeSet;

/** The public face is that of the document, word by word, and the program keeps to what LANGUAGE.md rules of it. */
public final class FaceTest {
    private static final Set<String> FACE = new TreeSet<>();

    public static void main(String[] args) throws IOException {
        String source = Files.readString(Path.of("src/main/java/Treequery.java"));
        int methods = face(Files.readAllLines(Path.of("../shared/DOC.md")), source);
        Due.is("public methods", methods, count(Treequery.class.getDeclaredMethods()));
        Due.is("methods of one name", methods, FACE.size());
        Due.is("public constructors", 1, Treequery.class.getDeclaredConstructors().length);
        members();
        inside();
        words(source);
        Due.end();
    }

    /** Looks for each line of the document's listing in the source; returns how many methods it has. */
    private static int face(List<String> document, String source) {
        int start = document.indexOf("```java");
        int methods = 0;
        for (int i = start + 1; !document.get(i).startsWith("```"); i++) {
            String line = document.get(i).trim().replace(";", "");
            if (line.startsWith("public")) {
                Due.is(line, true, source.contains("\n    " + line) || source.contains("\n" + line));
            }
            if (line.contains("(") && !line.contains("Treequery(")) {
                methods++;
                String head = line.substring(0, line.indexOf('('));
                FACE.add(head.substring(head.lastIndexOf(' ') + 1));
            }
        }
        return methods;
    }

    private static int count(Method[] methods) {
        int count = 0;
        for (Method each : methods) {
            count += Modifier.isPublic(each.getModifiers()) ? 1 : 0;
        }
        return count;
    }

    private static void members() {
        for (Method each : Treequery.class.getDeclaredMethods()) {
            boolean isFace = FACE.contains(each.getName());
            Due.is(each.getName(), isFace, Modifier.isPublic(each.getModifiers()));
            Due.is(each.getName() + " is private or public", true, isFace || Modifier.isPrivate(each.getModifiers()));
        }
        int fields = 0;
        for (Field each : Treequery.class.getDeclaredFields()) {
            boolean isConstant = Modifier.isStatic(each.getModifiers());
            fields += isConstant ? 0 : 1;
            Due.is(each.getName(), true, isConstant || Modifier.isPrivate(each.getModifiers()));
            Due.is(each.getName(), true, !isConstant || Modifier.isFinal(each.getModifiers()));
        }
        Due.is("some twenty fields", true, fields <= 20);
    }

    private static void inside() {
        Class<?>[] classes = Treequery.class.getDeclaredClasses();
        Due.is("some twelve classes", true, classes.length < 12);
        for (Class<?> each : classes) {
            Due.is(each.getName(), true, Modifier.isStatic(each.getModifiers()) && Modifier.isPrivate(each.getModifiers()));
            for (Method method : each.getDeclaredMethods()) {
                Due.is(each.getName() + "." + method.getName(), false, FACE.contains(method.getName()));
                Due.is(method.getName() + " takes few parameters", true, method.getParameterCount() <= 7);
                Due.is(method.getName(), false, Modifier.isPublic(method.getModifiers()));
            }
            for (Constructor<?> constructor : each.getDeclaredConstructors()) {
                Due.is(each.getName() + " throws nothing", 0, constructor.getExceptionTypes().length);
            }
        }
    }

    private static void words(String source) {
        String[] barred = {"->", "::", "catch", "finally", "synchronized", "assert", "instanceof", "Exact", "hashCode",
            "equals", "toString", "System.out", "System.nano", "System.current", "Random", "\" +", "+ \"", "(Object)"};
        for (String each : barred) {
            Due.is(each, false, source.contains(each));
        }
        for (int i = 0; i < source.length(); i++) {
            if (source.charAt(i) > 126) {
                Due.is("sign " + i, true, false);
            }
        }
        for (String line : source.split("\n")) {
            Due.is("import", false, line.startsWith("import") && !line.equals("import java.util.Arrays;"));
        }
    }
}
