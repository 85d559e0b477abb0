import java.lang.reflect.Method;
import java.lang.reflect.Modifier;
import java.net.URL;
import java.net.URLClassLoader;
import java.nio.file.Files;
import java.nio.file.Path;
import java.util.ArrayList;
import java.util.List;
import java.util.regex.Matcher;
import java.util.regex.Pattern;
import javax.tools.ToolProvider;

/** README.md's Java is compiled and run: each call must answer what stands behind it there. */
public final class ReadmeTest {
    private static final Path README = Path.of("README.md");
    private static final Pattern BLOCK = Pattern.compile("```java\n(.*?)```", Pattern.DOTALL);
    private static final Pattern ASKED = Pattern.compile("(night\\..*?\\));\\s*// (-?\\w+)\\b.*");
    private static int wrong = 0;
    private static int asked = 0;

    public static void main(String[] args) throws Exception {
        String page = Files.readString(README);
        List<String> blocks = blocksOf(page);
        if (blocks.size() != 2) {
            fault("it has " + blocks.size() + " blocks of Java, due are a method and an example");
        } else {
            runExample(blocks.get(0), blocks.get(1));
        }
        namesEveryCall(page);
        if (asked == 0) {
            fault("its example asks nothing");
        }
        System.out.println("README: " + asked + " answers, " + (wrong == 0 ? "all as due" : wrong + " wrong"));
        System.exit(wrong == 0 ? 0 : 1);
    }

    /** Called by the example, too. */
    public static void due(String call, Object got, String want) {
        asked++;
        if (!String.valueOf(got).equals(want)) {
            fault(call + " answered " + got + ", README says " + want);
        }
    }

    private static void fault(String what) {
        wrong++;
        System.out.println("README: " + what);
    }

    private static List<String> blocksOf(String page) {
        List<String> blocks = new ArrayList<>();
        Matcher m = BLOCK.matcher(page);
        while (m.find()) {
            blocks.add(m.group(1));
        }
        return blocks;
    }

    private static void runExample(String method, String example) throws Exception {
        StringBuilder body = new StringBuilder();
        for (String line : example.split("\n")) {
            Matcher m = ASKED.matcher(line);
            if (m.matches()) {
                body.append("ReadmeTest.due(\"").append(m.group(1)).append("\", ").append(m.group(1))
                        .append(", \"").append(m.group(2)).append("\");\n");
            } else {
                body.append(line).append('\n');
            }
        }
        Path out = Files.createTempDirectory("readme");
        Path source = out.resolve("ReadmeExample.java");
        Files.writeString(source, "public final class ReadmeExample {\n" + method
                + "public static void main(String[] args) {\n" + body + "}\n}\n");
        int failed = ToolProvider.getSystemJavaCompiler().run(null, null, null,
                "-cp", System.getProperty("java.class.path"), "-d", out.toString(), source.toString());
        if (failed != 0) {
            fault("its example does not compile");
        } else {
            try (URLClassLoader loader = new URLClassLoader(new URL[] {out.toUri().toURL()})) {
                loader.loadClass("ReadmeExample").getMethod("main", String[].class).invoke(null, (Object) new String[0]);
            }
        }
        for (String name : new String[] {"ReadmeExample.class", "ReadmeExample.java", ""}) {
            Files.deleteIfExists(out.resolve(name));
        }
    }

    private static void namesEveryCall(String page) {
        for (Method m : OneStageTwoPlays.class.getDeclaredMethods()) {
            boolean named = Pattern.compile("(?m)^\\| .*`" + m.getName() + "`.* \\|").matcher(page).find();
            if (Modifier.isPublic(m.getModifiers()) && !named) {
                fault("its tables do not name " + m.getName());
            }
        }
    }
}
