import java.io.ByteArrayOutputStream;
import java.io.PrintStream;
import java.lang.reflect.Method;
import java.net.URL;
import java.net.URLClassLoader;
import java.nio.file.Files;
import java.nio.file.Path;
import java.util.ArrayList;
import java.util.HashSet;
import java.util.List;
import java.util.Set;
import java.util.regex.Matcher;
import java.util.regex.Pattern;
import javax.tools.JavaCompiler;
import javax.tools.ToolProvider;

/** README.md's example: it compiles, each answer is the one that stands behind it, each method is in it. */
public final class ReadmeTest {
    private static final Pattern BLOCK = Pattern.compile("```java\n(.*?)```", Pattern.DOTALL);
    private static final Pattern ANSWER = Pattern.compile("show\\(.*?\\);\\s+// (-?\\d+)", Pattern.DOTALL);

    private static String exampleOf(String readme) {
        Matcher block = BLOCK.matcher(readme);
        return block.find() ? block.group(1) : "";
    }

    private static List<String> toldAnswers(String example) {
        List<String> all = new ArrayList<>();
        Matcher told = ANSWER.matcher(example.substring(Math.max(0, example.indexOf("main("))));
        while (told.find()) {
            all.add(told.group(1));
        }
        return all;
    }

    private static void delete(Path directory) throws java.io.IOException {
        try (var files = Files.list(directory)) {
            for (Path file : files.toList()) {
                Files.delete(file);
            }
        }
        Files.delete(directory);
    }

    private static String outputOf(Path classes) throws Exception {
        PrintStream before = System.out;
        ByteArrayOutputStream out = new ByteArrayOutputStream();
        try (URLClassLoader loader = new URLClassLoader(new URL[] {classes.toUri().toURL()})) {
            Method main = loader.loadClass("Example").getMethod("main", String[].class);
            System.setOut(new PrintStream(out, true));
            main.invoke(null, (Object) new String[0]);
        } finally {
            System.setOut(before);
        }
        return out.toString();
    }

    private static String run(String example) throws Exception {
        Path room = Files.createTempDirectory("readme");
        try {
            Path file = Files.writeString(room.resolve("Example.java"), example);
            JavaCompiler compiler = ToolProvider.getSystemJavaCompiler();
            int code = compiler.run(null, null, null, "-nowarn", "-cp", System.getProperty("java.class.path"),
                "-d", room.toString(), file.toString());
            Check.due("javac of README's example", code, 0);
            return code == 0 ? outputOf(room) : "";
        } finally {
            delete(room);
        }
    }

    private static void dueAnswers(List<String> told, List<String> got) {
        Check.due("how many answers README tells", told.size(), got.size());
        for (int k = 0; k < Math.min(told.size(), got.size()); k++) {
            Check.due("show " + (k + 1) + " of README", Long.parseLong(got.get(k)), Long.parseLong(told.get(k)));
        }
    }

    private static void dueEachMethod(String example) {
        Set<String> lacking = new HashSet<>();
        for (Method m : CallOpener.class.getDeclaredMethods()) {
            boolean isPublic = java.lang.reflect.Modifier.isPublic(m.getModifiers());
            if (isPublic && !example.contains("shop." + m.getName() + "(")) {
                lacking.add(m.getName());
            }
        }
        Check.due("methods that README's example lacks " + lacking, lacking.size(), 0);
    }

    public static void main(String[] none) throws Exception {
        String readme = Files.readString(Path.of("README.md"));
        String example = exampleOf(readme);
        Check.due("README has an example", example.isEmpty() ? 0 : 1, 1);
        dueEachMethod(example);
        dueAnswers(toldAnswers(example), run(example).lines().toList());
        Check.due("README says how to run the tests", readme.contains(".ci/run") ? 1 : 0, 1);
        Check.end("ReadmeTest");
    }
}
