import java.lang.reflect.Method;
import java.lang.reflect.Modifier;
import java.net.URL;
import java.net.URLClassLoader;
import java.nio.file.Files;
import java.nio.file.Path;
import java.util.ArrayList;
import java.util.List;
import java.util.Set;
import java.util.TreeSet;
import java.util.regex.Matcher;
import java.util.regex.Pattern;
import javax.tools.ToolProvider;

/** README.md says what holds: its examples compile and answer so, and its list has each call. */
public final class ReadmeTest {
    private static final Path README = Path.of("README.md");
    private static int wrong = 0;

    public static void main(String[] args) throws Exception {
        String text = Files.readString(README);
        calls(text);
        must(text.contains(".ci/run"), "README.md doesn't say how the tests are run");
        List<String> told = run(text);
        told.forEach(line -> must(false, line));
        System.out.println(wrong + " wrong in README.md");
        if (wrong != 0) {
            System.exit(1);
        }
    }

    private static void must(boolean is, String what) {
        if (!is) {
            wrong++;
            System.out.println(what);
        }
    }

    private static void calls(String text) throws Exception {
        Set<String> listed = new TreeSet<>();
        Matcher call = Pattern.compile("`(\\w+)\\(([^)`]*)\\)`").matcher(text);
        while (call.find()) {
            int parameters = call.group(2).isEmpty() ? 0 : call.group(2).split(", ").length;
            listed.add(call.group(1) + " " + parameters);
        }
        for (Method method : EnvyRust.class.getDeclaredMethods()) {
            if (Modifier.isPublic(method.getModifiers())) {
                must(listed.contains(method.getName() + " " + method.getParameterCount()), "README.md doesn't list " + method);
            }
        }
    }

    /** What the examples, compiled, tell of answers that aren't as the comment beside them says. */
    private static List<String> run(String text) throws Exception {
        StringBuilder program = new StringBuilder("public class Examples { public static void tell(java.util.List<String> told) {\n");
        int answers = 0;
        Matcher block = Pattern.compile("(?s)```java\n(.*?)```").matcher(text);
        while (block.find()) {
            program.append("{\n").append(block.group(1));
            Matcher line = Pattern.compile("(?m)^int (\\w+) = (.*); +// (-?\\d+): ").matcher(block.group(1));
            while (line.find()) {
                answers++;
                String differs = line.group(1) + " != " + line.group(3);
                program.append("if (").append(differs).append(") told.add(\"").append(differs).append(", but \" + ").append(line.group(1)).append(");\n");
            }
            must(block.group(1).split("= \\w+\\.\\w+\\(").length - 1 == block.group(1).split("// -?\\d+: ").length - 1, "an example without its answer");
            program.append("}\n");
        }
        must(answers >= 10, "README.md has " + answers + " answers");
        return tellOf(program.append("} }\n").toString());
    }

    private static List<String> tellOf(String program) throws Exception {
        Path out = Files.createTempDirectory("readme");
        Path source = Files.writeString(out.resolve("Examples.java"), program);
        String classes = System.getProperty("java.class.path");
        int failed = ToolProvider.getSystemJavaCompiler().run(null, null, null, "-cp", classes, "-d", out.toString(), source.toString());
        List<String> told = new ArrayList<>();
        if (failed != 0) {
            told.add("the examples don't compile");
        } else {
            try (URLClassLoader loader = new URLClassLoader(new URL[] {out.toUri().toURL()})) {
                loader.loadClass("Examples").getMethod("tell", List.class).invoke(null, told);
            }
        }
        for (String name : new String[] {"Examples.java", "Examples.class"}) {
            Files.deleteIfExists(out.resolve(name));
        }
        Files.delete(out);
        return told;
    }
}
