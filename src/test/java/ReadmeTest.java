import java.net.URI;
import java.net.URL;
import java.net.URLClassLoader;
import java.nio.file.Files;
import java.nio.file.Path;
import java.util.ArrayList;
import java.util.List;
import java.util.regex.Matcher;
import java.util.regex.Pattern;
import javax.tools.JavaCompiler;
import javax.tools.ToolProvider;

/** README.md: its code compiles, each call answers what stands behind it, and each call of the face is told there. */
public final class ReadmeTest {
    private static final Pattern BLOCK = Pattern.compile("(?ms)^```java\n(.*?)^```$");
    private static final Pattern ANSWER = Pattern.compile("(?m)^(x\\.\\w+\\(.*\\));\\s*// (-?\\d+|true|false)\\b.*$");
    private static final Pattern TABLE_ROW = Pattern.compile("(?m)^\\|(.*)\\|$");

    public static void main(String[] args) throws Exception {
        String page = Files.readString(Path.of("README.md"));
        everyCallIsTold(page);
        Path work = Files.createTempDirectory("readme");
        try {
            if (compile(work, source(page))) {
                run(work);
            }
        } finally {
            remove(work);
        }
        Check.close();
    }

    /** For the page's code, which is loaded by another loader and so sees public names alone. */
    public static void due(String call, int got, int want) {
        Check.due("README: " + call, got, want);
    }

    public static void due(String call, boolean got, boolean want) {
        Check.due("README: " + call, got, want);
    }

    private static void everyCallIsTold(String page) {
        StringBuilder rows = new StringBuilder();
        Matcher row = TABLE_ROW.matcher(page);
        while (row.find()) {
            rows.append(row.group(1));
        }
        for (java.lang.reflect.Method m : BellHammer.class.getDeclaredMethods()) {
            if (java.lang.reflect.Modifier.isPublic(m.getModifiers())) {
                Check.due("README tells of " + m.getName(), rows.indexOf("`" + m.getName() + "(") >= 0, true);
            }
        }
    }

    /** The blocks one behind the other: a method stays one, all else stands in main, calls with answers as what is due. */
    private static String source(String page) {
        StringBuilder methods = new StringBuilder();
        StringBuilder main = new StringBuilder();
        int answers = 0;
        Matcher block = BLOCK.matcher(page);
        while (block.find()) {
            String code = block.group(1);
            if (code.startsWith("static ")) {
                methods.append(code);
                continue;
            }
            Matcher answer = ANSWER.matcher(code);
            StringBuilder out = new StringBuilder();
            while (answer.find()) {
                answers++;
                String call = answer.group(1);
                answer.appendReplacement(out, Matcher.quoteReplacement("ReadmeTest.due(\"" + call + "\", " + call + ", " + answer.group(2) + ");"));
            }
            answer.appendTail(out);
            main.append(out);
        }
        Check.due("README shows answers", answers >= 40, true);
        Check.due("README shows a call without its answer", Pattern.compile("(?m)^x\\.").matcher(main).find(), false);
        return "public final class Page {\n" + methods + "public static void main(String[] args) {\n" + main + "}\n}\n";
    }

    private static boolean compile(Path work, String source) throws Exception {
        Path file = work.resolve("Page.java");
        Files.writeString(file, source);
        JavaCompiler compiler = ToolProvider.getSystemJavaCompiler();
        int code = compiler.run(null, null, null, "-cp", System.getProperty("java.class.path"), "-d", work.toString(), file.toString());
        Check.due("README: its code compiles", code, 0);
        return code == 0;
    }

    private static void run(Path work) throws Exception {
        URI classes = work.toUri();
        try (URLClassLoader loader = new URLClassLoader(new URL[] {classes.toURL()}, ReadmeTest.class.getClassLoader())) {
            loader.loadClass("Page").getMethod("main", String[].class).invoke(null, (Object) new String[0]);
        }
    }

    private static void remove(Path work) throws Exception {
        List<Path> all = new ArrayList<>();
        try (var files = Files.walk(work)) {
            files.forEach(all::add);
        }
        for (int i = all.size() - 1; i >= 0; i--) {
            Files.delete(all.get(i));
        }
    }
}
