import java.lang.reflect.Constructor;
import java.lang.reflect.Field;
import java.lang.reflect.Member;
import java.lang.reflect.Method;
import java.lang.reflect.Modifier;
import java.nio.file.Files;
import java.nio.file.Path;
import java.util.Set;
import java.util.TreeSet;

/** The public face is the one that DOC.md writes out, and nothing else can be reached. */
public final class FaceTest {
    public static void main(String[] args) throws Exception {
        Checks checks = new Checks();
        Path shared = Path.of(System.getProperty("knots.shared", "../shared"));
        Set<String> wanted = wanted(Files.readString(shared.resolve("DOC.md")));
        Set<String> found = found();
        for (String line : wanted) {
            checks.due("face has " + line, found.contains(line), true);
        }
        for (String line : found) {
            checks.due("document has " + line, wanted.contains(line), true);
        }
        checks.due("methods and constants and the constructor", wanted.size() > 70, true);
        checks.due("class is final and public", KnotReader.class.getModifiers(), Modifier.PUBLIC | Modifier.FINAL);
        hidden(checks);
        checks.close("FaceTest");
    }

    private static Set<String> wanted(String document) {
        int start = document.indexOf("public final class KnotReader {") + "public final class KnotReader {".length();
        String block = document.substring(start, document.indexOf("```", start));
        Set<String> lines = new TreeSet<>();
        for (String line : block.split("\n")) {
            if (line.strip().startsWith("public")) {
                lines.add(line.strip().replace(";", "").replaceAll("(int|boolean) \\w+(?=[,)])", "$1"));
            }
        }
        return lines;
    }

    private static Set<String> found() throws Exception {
        Set<String> lines = new TreeSet<>();
        for (Field field : KnotReader.class.getDeclaredFields()) {
            if (!Modifier.isPrivate(field.getModifiers())) {
                lines.add(Modifier.toString(field.getModifiers()) + " int " + field.getName() + " = " + field.getInt(null));
            }
        }
        for (Constructor<?> constructor : KnotReader.class.getDeclaredConstructors()) {
            lines.add(Modifier.toString(constructor.getModifiers()) + " KnotReader" + types(constructor.getParameterTypes(), "(", ")"));
        }
        for (Method method : KnotReader.class.getDeclaredMethods()) {
            if (!Modifier.isPrivate(method.getModifiers()) && !method.isSynthetic()) {
                lines.add(Modifier.toString(method.getModifiers()) + " " + method.getReturnType() + " " + method.getName()
                        + types(method.getParameterTypes(), "(", ")") + types(method.getExceptionTypes(), " throws ", ""));
            }
        }
        return lines;
    }

    private static String types(Class<?>[] types, String before, String behind) {
        StringBuilder text = new StringBuilder();
        for (Class<?> type : types) {
            text.append(text.length() == 0 ? "" : ", ").append(type.getSimpleName());
        }
        return text.length() == 0 && behind.isEmpty() ? "" : before + text + behind;
    }

    /** No private method bears a public one's name, and the classes inside are not for others. */
    private static void hidden(Checks checks) {
        Set<String> open = new TreeSet<>();
        for (Method method : KnotReader.class.getDeclaredMethods()) {
            if (Modifier.isPublic(method.getModifiers())) {
                open.add(method.getName());
            }
        }
        for (Method method : KnotReader.class.getDeclaredMethods()) {
            checks.due("name of " + method, isPrivate(method) && open.contains(method.getName()), false);
        }
        for (Class<?> inner : KnotReader.class.getDeclaredClasses()) {
            checks.due(inner + " is static", Modifier.isStatic(inner.getModifiers()), true);
            checks.due(inner + " is open", (inner.getModifiers() & (Modifier.PUBLIC | Modifier.PROTECTED)) != 0, false);
            for (Method method : inner.getDeclaredMethods()) {
                checks.due("name of " + method, open.contains(method.getName()), false);
            }
        }
    }

    private static boolean isPrivate(Member member) {
        return Modifier.isPrivate(member.getModifiers());
    }
}
