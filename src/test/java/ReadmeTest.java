import java.io.IOException;
import java.lang.reflect.InvocationTargetException;
import java.lang.reflect.Method;
import java.net.URL;
import java.net.URLClassLoader;
import java.nio.file.Files;
import java.nio.file.Path;
import java.util.ArrayList;
import java.util.List;
import java.util.NoSuchElementException;
import java.util.Set;
import java.util.TreeSet;
import java.util.regex.Matcher;
import java.util.regex.Pattern;
import javax.tools.JavaCompiler;
import javax.tools.ToolProvider;

/** The examples of README.md, compiled as they stand there; each call's answer is the one behind its comment sign. */
public final class ReadmeTest {
    private static final Pattern CALL =
        Pattern.compile("\\s*((?:hall\\.|card\\()[^;]*);\\s*// (-?\\d+|true|false|NoSuchElementException)\\b.*");
    private static int answers = 0;
    private static int wrong = 0;

    /** What an example's call answers. */
    public interface Call {
        Object answer();
    }

    public static void due(String call, Call made, String want) {
        answers++;
        String got;
        try {
            got = String.valueOf(made.answer());
        } catch (NoSuchElementException e) {
            got = "NoSuchElementException";
        }
        if (!got.equals(want)) {
            wrong++;
            System.out.println("README.md: " + call + " answered " + got + ", the page says " + want);
        }
    }

    private static List<List<String>> javaBlocks(List<String> page) {
        List<List<String>> blocks = new ArrayList<>();
        boolean inside = false;
        for (String line : page) {
            if (line.startsWith("```")) {
                inside = line.equals("```java");
                if (inside) {
                    blocks.add(new ArrayList<>());
                }
            } else if (inside) {
                blocks.get(blocks.size() - 1).add(line);
            }
        }
        return blocks;
    }

    private static boolean isHelpers(List<String> block) {
        return block.stream().anyMatch(line -> line.startsWith("static "));
    }

    private static String checked(String line) {
        Matcher call = CALL.matcher(line);
        if (call.matches()) {
            String made = call.group(1);
            return "ReadmeTest.due(\"" + made.replace("\"", "\\\"") + "\", () -> " + made + ", \"" + call.group(2) + "\");";
        }
        if (line.contains("//")) {
            wrong++;
            System.out.println("README.md: no answer is told by: " + line);
        }
        return line;
    }

    private static String program(List<List<String>> blocks) {
        StringBuilder members = new StringBuilder();
        StringBuilder main = new StringBuilder();
        for (List<String> block : blocks) {
            if (isHelpers(block)) {
                members.append(String.join("\n", block)).append('\n');
            } else {
                main.append("{\n");
                block.forEach(line -> main.append(checked(line)).append('\n'));
                main.append("}\n");
            }
        }
        return "public final class ReadmeExamples {\n" + members + "public static void main(String[] args) {\n" + main
            + "}\n}\n";
    }

    private static void play(String program) throws IOException, ReflectiveOperationException {
        Path work = Files.createTempDirectory("readme");
        Path source = work.resolve("ReadmeExamples.java");
        Files.writeString(source, program);
        JavaCompiler javac = ToolProvider.getSystemJavaCompiler();
        String path = System.getProperty("java.class.path");
        if (javac == null || javac.run(null, null, null, "-cp", path, "-d", work.toString(), source.toString()) != 0) {
            wrong++;
            System.out.println("README.md: the examples do not compile");
        } else {
            try (URLClassLoader loader = new URLClassLoader(new URL[] {work.toUri().toURL()})) {
                loader.loadClass("ReadmeExamples").getMethod("main", String[].class)
                    .invoke(null, (Object) new String[0]);
            }
        }
        Files.deleteIfExists(work.resolve("ReadmeExamples.class"));
        Files.delete(source);
        Files.delete(work);
    }

    /** Every call of the face stands in the table of calls. */
    private static void table(List<String> page) {
        String rows = String.join("\n", page.stream().filter(line -> line.startsWith("| ")).toList());
        Set<String> names = new TreeSet<>();
        for (Method method : PlugHall.class.getMethods()) {
            if (method.getDeclaringClass() == PlugHall.class) {
                names.add(method.getName());
            }
        }
        for (String name : names) {
            if (!rows.contains("`" + name + "`")) {
                wrong++;
                System.out.println("README.md: the table of calls lacks " + name);
            }
        }
    }

    public static void main(String[] args) throws IOException, ReflectiveOperationException {
        Path project = Path.of(args[0]).toAbsolutePath().getParent().getParent().getParent().getParent();
        List<String> page = Files.readAllLines(project.resolve("README.md"));
        table(page);
        try {
            play(program(javaBlocks(page)));
        } catch (InvocationTargetException e) {
            wrong++;
            System.out.println("README.md: an example throws " + e.getCause());
        }
        if (answers == 0) {
            wrong++;
            System.out.println("README.md: there is no example");
        }
        System.out.println(wrong == 0 ? answers + " answers of the page, all as due" : wrong + " are not as due");
        if (wrong != 0) {
            System.exit(1);
        }
    }
}
