import java.lang.reflect.Field;
import java.lang.reflect.Method;
import java.lang.reflect.Modifier;
import java.nio.charset.StandardCharsets;
import java.nio.file.Files;
import java.nio.file.Path;
import java.util.Set;
import java.util.TreeSet;
import java.util.regex.Matcher;
import java.util.regex.Pattern;

/** The rules of LANGUAGE.md that can be read off the source and the compiled class. */
public final class LanguageTest {
    private static final Checks C = new Checks();
    private static final String EXCEPTIONS = "IllegalStateException|IllegalArgumentException|IndexOutOfBoundsException|NoSuchElementException";

    public static void main(String[] args) throws Exception {
        Path root = Path.of(System.getProperty("knots.root", "."));
        byte[] bytes = Files.readAllBytes(root.resolve("src/main/java/KnotReader.java"));
        for (byte b : bytes) {
            C.due("sign of the source", b > 0, true);
        }
        String code = withoutTexts(new String(bytes, StandardCharsets.ISO_8859_1));
        words(code);
        throwing(code);
        methodLengths(code);
        for (Class<?> inner : KnotReader.class.getDeclaredClasses()) {
            compiled(inner);
        }
        compiled(KnotReader.class);
        C.due("classes", KnotReader.class.getDeclaredClasses().length < 12, true);
        C.close("LanguageTest");
    }

    /** The source with comments, strings and characters left empty. */
    private static String withoutTexts(String source) {
        return source.replaceAll("(?s)/\\*.*?\\*/", "").replaceAll("//[^\n]*", "").replaceAll("\"[^\"\n]*\"", "\"\"").replaceAll("'\\\\?.'", "' '");
    }

    private static void words(String code) {
        for (String word : new String[] {"->", "::", "catch", "try", "finally", "synchronized", "assert", "equals", "hashCode", "toString", "Math",
            "System", "Object", "Thread", "native", "volatile", "transient", "package", "protected", "long", "Integer", "@"}) {
            boolean found = Pattern.compile(word.matches("\\w+") ? "\\b" + word + "\\b" : Pattern.quote(word)).matcher(code).find();
            C.due("source has " + word, found, false);
        }
        Matcher imports = Pattern.compile("import ([^;]*);").matcher(code);
        while (imports.find()) {
            C.due("import", imports.group(1), "java.util.NoSuchElementException");
        }
    }

    private static void throwing(String code) {
        Matcher all = Pattern.compile("\\bthrow\\b[^;]*;").matcher(code);
        while (all.find()) {
            C.due(all.group(), all.group().matches("throw new (" + EXCEPTIONS + ")\\(\"\"\\);"), true);
        }
    }

    private static void methodLengths(String code) {
        String[] lines = code.split("\n");
        int start = -1;
        String indent = "";
        for (int i = 0; i < lines.length; i++) {
            if (start < 0 && lines[i].matches(" +[\\w\\[\\] ]*\\(.*\\)( throws .*)? \\{") && !lines[i].matches(" +(if|for|while|switch|} else).*")) {
                start = i;
                indent = lines[i].replaceAll("\\S.*", "");
            } else if (start >= 0 && lines[i].equals(indent + "}")) {
                C.due("length of " + lines[start].strip(), i - start < 60, true);
                start = -1;
            }
        }
    }

    private static void compiled(Class<?> type) {
        Set<String> fields = new TreeSet<>();
        for (Field field : type.getDeclaredFields()) {
            if (!Modifier.isStatic(field.getModifiers())) {
                fields.add(field.getName());
            } else {
                C.due(field + " is constant", Modifier.isFinal(field.getModifiers()) && (field.getType() == int.class || field.getType() == String.class), true);
            }
        }
        C.due("fields of " + type, fields.size() <= 20, true);
        Set<String> face = new TreeSet<>();
        for (Method method : KnotReader.class.getMethods()) {
            face.add(method.getName());
        }
        for (Method method : type.getDeclaredMethods()) {
            C.due("parameters of " + method, method.getParameterCount() <= 7, true);
            C.due(method + " has a name of the face", !Modifier.isPublic(method.getModifiers()) && face.contains(method.getName()), false);
        }
    }
}
