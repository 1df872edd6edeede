import java.io.ByteArrayOutputStream;
import java.io.File;
import java.io.PrintStream;
import java.lang.reflect.Method;
import java.lang.reflect.Modifier;
import java.net.URL;
import java.net.URLClassLoader;
import java.nio.file.Files;
import java.nio.file.Path;
import java.util.ArrayList;
import java.util.List;
import java.util.regex.Matcher;
import java.util.regex.Pattern;
import javax.tools.ToolProvider;

/** README.md says what holds: its program prints what stands behind its rows; every call and test is named. */
public final class ReadmeTest extends Bench {
    private static final Pattern PRINTED = Pattern.compile("\\); // (-?\\d+)");

    private static String block(String page, String kind) {
        int from = page.indexOf("```" + kind + "\n");
        int to = from < 0 ? -1 : page.indexOf("\n```", from + 3);
        return to < 0 ? "" : page.substring(page.indexOf('\n', from) + 1, to + 1);
    }

    /** The answers that the program's rows tell: only rows that print have a number behind them. */
    private static List<String> promised(String program) {
        List<String> l = new ArrayList<>();
        for (String row : program.split("\n")) {
            Matcher m = PRINTED.matcher(row);
            if (m.find()) l.add(m.group(1));
        }
        return l;
    }

    private static List<String> printed(String program) throws Exception {
        Path dir = Files.createTempDirectory("readme");
        Path file = dir.resolve("Example.java");
        Files.writeString(file, program);
        int code = ToolProvider.getSystemJavaCompiler().run(null, null, null, "-encoding", "UTF-8",
                "-cp", System.getProperty("java.class.path"), "-d", dir.toString(), file.toString());
        due("the program compiles", code, 0);
        if (code != 0) return List.of();
        ByteArrayOutputStream out = new ByteArrayOutputStream();
        PrintStream was = System.out;
        try (URLClassLoader loader = new URLClassLoader(new URL[] {dir.toUri().toURL()})) {
            System.setOut(new PrintStream(out, true));
            loader.loadClass("Example").getMethod("main", String[].class).invoke(null, (Object) new String[0]);
        } finally {
            System.setOut(was);
            for (File f : dir.toFile().listFiles()) f.delete();
            Files.delete(dir);
        }
        return List.of(out.toString().split("\\R"));
    }

    private static void example(String page) throws Exception {
        named("README's program");
        String program = block(page, "java");
        List<String> due = promised(program);
        List<String> got = printed(program);
        due("rows that print", got.size(), program.split("System.out.println\\(").length - 1);
        due("answers told", due.size(), got.size());
        for (int i = 0; i < Math.min(due.size(), got.size()); i++) {
            due("row " + i, Long.parseLong(got.get(i)), Long.parseLong(due.get(i)));
        }
    }

    private static void calls(String page) {
        named("README's calls");
        String table = page.substring(page.indexOf("### The calls"), page.indexOf("## Tests"));
        int methods = 0;
        for (Method m : BlankNote.class.getDeclaredMethods()) {
            if (!Modifier.isPublic(m.getModifiers())) continue;
            methods++;
            due(m.getName() + " is told", table.contains("`" + m.getName() + "`") ? 1 : 0, 1);
        }
        due("calls of the document", methods, 44);
    }

    private static void tests(String page) {
        named("README's tests");
        String part = page.substring(page.indexOf("## Tests"));
        Matcher m = Pattern.compile("`([A-Z][A-Za-z]*Test)`").matcher(part);
        List<String> told = new ArrayList<>();
        while (m.find()) told.add(m.group(1));
        File[] files = new File("src/test/java").listFiles();
        int there = 0;
        for (File f : files == null ? new File[0] : files) {
            there++;
            due(f.getName() + " is told", told.contains(f.getName().replace(".java", "")) ? 1 : 0, 1);
        }
        due("tests told", told.size(), there);
    }

    public static void main(String[] args) throws Exception {
        String page = read("README.md");
        example(page);
        calls(page);
        tests(page);
        end();
    }
}
