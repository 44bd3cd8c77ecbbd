import java.io.IOException;
import java.net.URL;
import java.net.URLClassLoader;
import java.nio.file.Files;
import java.nio.file.Path;
import java.util.regex.Matcher;
import java.util.regex.Pattern;
import javax.tools.ToolProvider;

/** README.md: its Java is compiled and run, and each call with an answer behind // has to answer so. */
public final class ReadmeTest {
    private static final Pattern BLOCK = Pattern.compile("(?s)```java\n(.*?)```");
    /** A call, perhaps kept in a variable, and its answer, perhaps with some words behind it. */
    private static final Pattern CALL = Pattern.compile("(?:int (\\w+) = )?(x\\..*); // (-?\\w+)(?:: .*)?");
    private static final Pattern METHOD = Pattern.compile(" {4}public (?:int|long|boolean) (\\w+)\\(([^)]*)\\) \\{");
    private static int calls = 0;

    private ReadmeTest() {
    }

    public static void main(String[] args) throws Exception {
        String readme = Files.readString(Path.of("README.md"));
        run(asClass(readme));
        Check.due("README.md has calls", calls > 50, true);
        eachMethodIsNamed(readme);
        Check.finish("ReadmeTest");
    }

    /** What the page's calls are checked by, which come from another loader; so it is public. */
    public static void due(String call, Object got, Object want) {
        calls++;
        Check.due("README.md: " + call, String.valueOf(got), String.valueOf(want));
    }

    /** A method for each block; blocks that are methods themselves stand beside them. */
    private static String asClass(String readme) {
        StringBuilder methods = new StringBuilder();
        StringBuilder main = new StringBuilder();
        Matcher block = BLOCK.matcher(readme);
        for (int i = 0; block.find(); i++) {
            String code = block.group(1);
            if (code.startsWith("static ")) {
                methods.append(code);
                continue;
            }
            methods.append("static void block").append(i).append("() {\n");
            for (String line : code.split("\n")) {
                methods.append(asCheck(line)).append("\n");
            }
            methods.append("}\n");
            main.append("block").append(i).append("();\n");
        }
        return "public class ReadmeCalls {\n" + methods + "public static void all() {\n" + main + "}\n}\n";
    }

    private static String asCheck(String line) {
        Matcher call = CALL.matcher(line);
        if (!call.matches()) {
            return line;
        }
        boolean kept = call.group(1) != null;
        String got = kept ? call.group(1) : call.group(2);
        String before = kept ? "int " + got + " = " + call.group(2) + "; " : "";
        return before + "ReadmeTest.due(\"" + call.group(2) + "\", " + got + ", " + call.group(3) + ");";
    }

    private static void run(String code) throws Exception {
        Path folder = Files.createTempDirectory("readme");
        Path file = folder.resolve("ReadmeCalls.java");
        try {
            Files.writeString(file, code);
            String path = System.getProperty("java.class.path");
            int failed = ToolProvider.getSystemJavaCompiler().run(null, null, null, "-cp", path, file.toString());
            Check.due("README.md's Java compiles", failed, 0);
            if (failed == 0) {
                URL[] places = {folder.toUri().toURL()};
                try (URLClassLoader loader = new URLClassLoader(places)) {
                    loader.loadClass("ReadmeCalls").getMethod("all").invoke(null);
                }
            }
        } finally {
            Files.deleteIfExists(file);
            Files.deleteIfExists(folder.resolve("ReadmeCalls.class"));
            Files.delete(folder);
        }
    }

    /** Every public method stands on the page with its parameters' names. */
    private static void eachMethodIsNamed(String readme) throws IOException {
        Matcher method = METHOD.matcher(Files.readString(Path.of("src/main/java/StolenHours.java")));
        int methods = 0;
        while (method.find()) {
            methods++;
            String call = method.group(1) + "(" + method.group(2).replaceAll("(int|boolean) ", "") + ")";
            Check.due("README.md names " + call, readme.contains("`" + call + "`"), true);
        }
        Check.due("public methods", methods, 35);
    }
}
