import java.io.File;
import java.io.IOException;
import java.lang.reflect.Method;
import java.lang.reflect.Modifier;
import java.net.URL;
import java.net.URLClassLoader;
import java.nio.file.Files;
import java.nio.file.Path;
import java.util.TreeSet;
import javax.tools.JavaCompiler;
import javax.tools.ToolProvider;

/** README.md: its example is compiled and carried out, and it names every call and every test. */
public final class ReadmeTest {
    public static void main(String[] arguments) throws Exception {
        String page = Files.readString(Path.of("README.md"));
        example(page);
        calls(page);
        tests(page);
        Check.finish();
    }

    private static void example(String page) throws Exception {
        int start = page.indexOf("```java\n") + 8;
        String block = page.substring(start, page.indexOf("```", start));
        Path folder = Path.of("build/readme");
        Files.createDirectories(folder);
        Path file = folder.resolve("Example.java");
        Files.writeString(file, "public final class Example {\n    public static SkirmishGrid game;\n"
                + "    public static int[] run() {\n" + block.replace("SkirmishGrid game =", "game =")
                + "        return new int[] {size, scout, heavy, cell, unit};\n    }\n}\n");
        JavaCompiler compiler = ToolProvider.getSystemJavaCompiler();
        String path = System.getProperty("java.class.path");
        Check.same("the example compiles", 0,
                compiler.run(null, null, null, "-cp", path, "-d", folder.toString(), file.toString()));
        try (URLClassLoader loader = new URLClassLoader(new URL[] {folder.toUri().toURL()})) {
            Class<?> example = loader.loadClass("Example");
            int[] got = (int[]) example.getMethod("run").invoke(null);
            int[] due = {35, 0, 1, 6, 1};
            for (int i = 0; i < due.length; i++) {
                Check.same("number " + i + " of size, scout, heavy, cell, unit", due[i], got[i]);
            }
            SkirmishGrid game = (SkirmishGrid) example.getField("game").get(null);
            Check.same("the scout had the first turn", 0, game.order(0));
            Check.same("commands", 2, game.commandCount());
        }
    }

    private static void calls(String page) {
        String table = page.substring(page.indexOf("| calls |"), page.indexOf("- A call that"));
        TreeSet<String> missing = new TreeSet<>();
        for (Method method : SkirmishGrid.class.getDeclaredMethods()) {
            if (Modifier.isPublic(method.getModifiers()) && !table.contains("`" + method.getName() + "`")) {
                missing.add(method.getName());
            }
        }
        Check.same("calls that the page does not name", "[]", missing.toString());
    }

    private static void tests(String page) throws IOException {
        File[] files = new File("src/test/java").listFiles();
        Check.same("there are tests", true, files != null && files.length > 0);
        TreeSet<String> missing = new TreeSet<>();
        for (File file : files) {
            String name = file.getName().replace(".java", "");
            if (name.endsWith("Test") && !page.contains("`" + name + "`")) {
                missing.add(name);
            }
        }
        Check.same("tests that the page does not name", "[]", missing.toString());
    }
}
