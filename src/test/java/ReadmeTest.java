import java.io.IOException;
import java.lang.reflect.Method;
import java.lang.reflect.Modifier;
import java.net.URL;
import java.net.URLClassLoader;
import java.nio.file.Files;
import java.nio.file.Path;
import java.util.ArrayList;
import java.util.Arrays;
import java.util.List;
import java.util.Set;
import java.util.TreeSet;
import java.util.regex.Matcher;
import java.util.regex.Pattern;
import javax.tools.JavaCompiler;
import javax.tools.ToolProvider;

/** README.md tells the document's face, and its lines compile and answer what is told behind them. */
public final class ReadmeTest {
    private static final Path DOCUMENT = Path.of("../shared/DOC.md");
    private static final Pattern TOLD = Pattern.compile("^(x\\.(\\w+)\\(.*\\));\\s+// (-?\\d+)\\b.*$");
    private static final Pattern METHOD = Pattern.compile("^    public int (\\w+)\\((.*)\\);$");

    private ReadmeTest() {
    }

    public static void main(String[] args) throws Exception {
        List<String> blocks = blocks(Files.readString(Path.of("README.md")));
        Asker.due("the face stands in README.md", isFace(blocks.get(0)) ? 1 : 0, 1);
        face(blocks.get(0));
        List<Matcher> told = new ArrayList<>();
        int[] answers = run(program(blocks.subList(1, blocks.size()), told));
        Asker.due("calls that README.md's lines make", answers.length, told.size());
        for (int i = 0; i < answers.length; i++) {
            Asker.due("README.md: " + told.get(i).group(1), answers[i], Integer.parseInt(told.get(i).group(3)));
        }
        allShown(told);
        Asker.finish("ReadmeTest");
    }

    private static void allShown(List<Matcher> told) {
        Set<String> called = new TreeSet<>();
        for (Matcher m : told) {
            called.add(m.group(2));
        }
        for (Method m : LastWords.class.getDeclaredMethods()) {
            if (Modifier.isPublic(m.getModifiers())) {
                Asker.due(m.getName() + " is shown in README.md", called.contains(m.getName()) ? 1 : 0, 1);
            }
        }
    }

    /** What stands between the signs that begin and end Java's lines. */
    private static List<String> blocks(String page) {
        List<String> blocks = new ArrayList<>();
        for (Matcher m = Pattern.compile("(?s)```java\n(.*?)```").matcher(page); m.find();) {
            blocks.add(m.group(1));
        }
        return blocks;
    }

    private static boolean isFace(String block) throws IOException {
        return !Files.isReadable(DOCUMENT) || block.equals(blocks(Files.readString(DOCUMENT)).get(0));
    }

    /** The class has the methods of the face, all of int, and no other public ones. */
    private static void face(String block) {
        int told = 0;
        for (String line : block.split("\n")) {
            Matcher m = METHOD.matcher(line);
            if (m.matches()) {
                told++;
                int parameters = m.group(2).isEmpty() ? 0 : m.group(2).split(",").length;
                Asker.due("the class has " + line.trim(), has(m.group(1), parameters) ? 1 : 0, 1);
            }
        }
        int there = 0;
        for (Method m : LastWords.class.getDeclaredMethods()) {
            there += Modifier.isPublic(m.getModifiers()) ? 1 : 0;
        }
        Asker.due("public methods", there, told);
        Asker.due("public constructors", LastWords.class.getConstructors().length, 1);
        Asker.due("public fields", LastWords.class.getFields().length, 1);
        Asker.due("NONE", LastWords.NONE, -1);
    }

    private static boolean has(String name, int parameters) {
        Class<?>[] kinds = new Class<?>[parameters];
        Arrays.fill(kinds, int.class);
        try {
            Method m = LastWords.class.getMethod(name, kinds);
            return m.getReturnType() == int.class && !Modifier.isStatic(m.getModifiers());
        } catch (NoSuchMethodException e) {
            return false;
        }
    }

    /** The page's lines as a class that collects the answers; the lines with a told answer come into a list. */
    private static String program(List<String> blocks, List<Matcher> told) {
        StringBuilder helpers = new StringBuilder();
        StringBuilder lines = new StringBuilder();
        for (String block : blocks) {
            if (block.startsWith("static ")) {
                helpers.append(block);
                continue;
            }
            for (String line : block.split("\n")) {
                Matcher m = TOLD.matcher(line);
                if (m.matches()) {
                    lines.append("answers[").append(told.size()).append("] = ").append(m.group(1)).append(";\n");
                    told.add(m);
                } else {
                    lines.append(line).append('\n');
                }
            }
        }
        return "public class Shown {\n" + helpers + "public static int[] show() {\nint[] answers = new int[" + told.size()
                + "];\n" + lines + "return answers;\n}\n}\n";
    }

    private static int[] run(String program) throws Exception {
        Path place = Files.createTempDirectory("shown");
        Path source = place.resolve("Shown.java");
        try {
            Files.writeString(source, program);
            JavaCompiler compiler = ToolProvider.getSystemJavaCompiler();
            String path = System.getProperty("java.class.path");
            boolean made = compiler != null
                    && compiler.run(null, null, null, "-cp", path, "-d", place.toString(), source.toString()) == 0;
            Asker.due("README.md's lines compile", made ? 1 : 0, 1);
            return made ? show(place) : new int[0];
        } finally {
            Files.deleteIfExists(place.resolve("Shown.class"));
            Files.deleteIfExists(source);
            Files.deleteIfExists(place);
        }
    }

    private static int[] show(Path place) throws Exception {
        URL[] there = {place.toUri().toURL()};
        try (URLClassLoader loader = new URLClassLoader(there, ReadmeTest.class.getClassLoader())) {
            return (int[]) loader.loadClass("Shown").getMethod("show").invoke(null);
        }
    }
}
