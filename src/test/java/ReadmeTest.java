import java.lang.reflect.InvocationTargetException;
import java.net.URL;
import java.net.URLClassLoader;
import java.nio.file.Files;
import java.nio.file.Path;
import java.util.ArrayList;
import java.util.List;
import java.util.regex.Matcher;
import java.util.regex.Pattern;
import javax.tools.ToolProvider;

/** The code of README.md, compiled and run: each call answers what the comment behind it says first. */
public final class ReadmeTest {
    private static final Pattern BLOCK = Pattern.compile("```java\n(.*?)```", Pattern.DOTALL);
    private static final Pattern ANSWERED = Pattern.compile("(reader\\..*); +// ([^ ,:]+).*");

    public static void main(String[] args) throws Exception {
        Path root = Path.of(System.getProperty("knots.root", "."));
        List<String> answered = new ArrayList<>();
        String program = program(Files.readString(root.resolve("README.md")), answered);
        List<?> answers = run(program);
        Checks checks = new Checks();
        checks.due("answers of README.md", answers.size(), answered.size());
        checks.due("README.md has code", answered.size() > 20, true);
        for (int i = 0; i < answers.size(); i++) {
            int[] pair = (int[]) answers.get(i);
            checks.due("README.md: " + answered.get(i), pair[0], pair[1]);
        }
        checks.close("ReadmeTest");
    }

    /** Blocks of statements go into one method, in their order, and blocks of methods beside it. */
    private static String program(String readme, List<String> answered) {
        StringBuilder statements = new StringBuilder();
        StringBuilder methods = new StringBuilder();
        Matcher blocks = BLOCK.matcher(readme);
        while (blocks.find()) {
            if (blocks.group(1).startsWith("static ")) {
                methods.append(blocks.group(1));
                continue;
            }
            for (String line : blocks.group(1).split("\n")) {
                Matcher call = ANSWERED.matcher(line);
                if (call.matches()) {
                    answered.add(call.group(1));
                    statements.append("answers.add(new int[] {").append(call.group(1)).append(", ").append(call.group(2)).append("});\n");
                } else {
                    statements.append(line).append("\n");
                }
            }
        }
        return "public class ReadmeCode {\npublic static java.util.List<int[]> run() {\njava.util.List<int[]> answers = new java.util.ArrayList<>();\n"
                + statements + "return answers;\n}\n" + methods + "}\n";
    }

    private static List<?> run(String program) throws Exception {
        Path place = Files.createTempDirectory("readme");
        Path source = place.resolve("ReadmeCode.java");
        Files.writeString(source, program);
        int failed = ToolProvider.getSystemJavaCompiler().run(null, null, null, "-cp", System.getProperty("java.class.path"), "-d", place.toString(), source.toString());
        if (failed != 0) {
            throw new IllegalStateException("the code of README.md does not compile");
        }
        try (URLClassLoader loader = new URLClassLoader(new URL[] {place.toUri().toURL()}, ReadmeTest.class.getClassLoader())) {
            return (List<?>) loader.loadClass("ReadmeCode").getMethod("run").invoke(null);
        } catch (InvocationTargetException e) {
            throw new IllegalStateException("the code of README.md throws " + e.getCause());
        } finally {
            for (String file : new String[] {"ReadmeCode.java", "ReadmeCode.class"}) {
                Files.deleteIfExists(place.resolve(file));
            }
            Files.deleteIfExists(place);
        }
    }
}
