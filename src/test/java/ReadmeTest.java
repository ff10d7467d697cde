import java.io.ByteArrayOutputStream;
import java.io.IOException;
import java.io.PrintStream;
import java.lang.reflect.Method;
import java.lang.reflect.Modifier;
import java.net.URI;
import java.net.URL;
import java.net.URLClassLoader;
import java.nio.file.Files;
import java.nio.file.Path;
import java.util.ArrayList;
import java.util.Arrays;
import java.util.List;
import java.util.Map;
import java.util.Set;
import java.util.TreeMap;
import java.util.TreeSet;
import javax.tools.JavaFileObject;
import javax.tools.SimpleJavaFileObject;
import javax.tools.ToolProvider;

/** README.md: its program prints what stands below it, and its table names each call with what it throws. */
public final class ReadmeTest {
    private static final String[] THROWN =
        {"IndexOutOfBoundsException", "IllegalArgumentException", "IllegalStateException"};
    private static final int NAME = 1, FIRST_THROWN = 3, CELLS = 6;

    private static final class Source extends SimpleJavaFileObject {
        private final String text;

        private Source(String text) {
            super(URI.create("string:///Example.java"), JavaFileObject.Kind.SOURCE);
            this.text = text;
        }

        @Override
        public CharSequence getCharContent(boolean ignoreEncodingErrors) {
            return text;
        }
    }

    public static void main(String[] args) throws IOException, ReflectiveOperationException {
        String page = Files.readString(Path.of("README.md"));
        testProgram(blockOf(page, "java"), blockOf(page, "text"));
        testTable(page);
        Check.end();
    }

    private static String blockOf(String page, String kind) {
        String opening = "```" + kind + "\n";
        int start = page.indexOf(opening) + opening.length();
        return page.substring(start, page.indexOf("```", start));
    }

    private static void testProgram(String program, String due) throws IOException, ReflectiveOperationException {
        Path folder = Files.createTempDirectory("readme");
        List<String> options = Arrays.asList("--release", "17", "-cp", System.getProperty("java.class.path"),
            "-d", folder.toString());
        boolean compiles = ToolProvider.getSystemJavaCompiler()
            .getTask(null, null, null, options, null, List.of(new Source(program))).call();
        Check.same("the program compiles", true, compiles);
        if (compiles) {
            String printed = printedBy(folder);
            if (!printed.strip().equals(due.strip())) {
                Check.fail("the program printed\n" + printed + "\ndue is\n" + due);
            }
        }
        Files.deleteIfExists(folder.resolve("Example.class"));
        Files.deleteIfExists(folder);
    }

    private static String printedBy(Path folder) throws IOException, ReflectiveOperationException {
        PrintStream usual = System.out;
        ByteArrayOutputStream printed = new ByteArrayOutputStream();
        try (URLClassLoader loader = new URLClassLoader(new URL[] {folder.toUri().toURL()})) {
            System.setOut(new PrintStream(printed));
            loader.loadClass("Example").getMethod("main", String[].class).invoke(null, (Object) new String[0]);
        } finally {
            System.out.flush();
            System.setOut(usual);
        }
        return printed.toString().replace(System.lineSeparator(), "\n");
    }

    private static void testTable(String page) {
        Map<String, Method> face = new TreeMap<>();
        for (Method method : BoilerLog.class.getDeclaredMethods()) {
            if (Modifier.isPublic(method.getModifiers())) {
                face.put(method.getName(), method);
            }
        }
        Set<String> seen = new TreeSet<>();
        for (String line : page.split("\n")) {
            String[] cells = line.split("\\|");
            if (cells.length == CELLS && cells[NAME].strip().startsWith("`")) {
                String call = cells[NAME].strip().replace("`", "");
                String name = call.substring(0, call.indexOf('('));
                Check.same(name + " stands once, and is a call", true, seen.add(name) && face.containsKey(name));
                testRow(call, cells, face.get(name));
            }
        }
        Check.same("each call has its row", face.size(), seen.size());
    }

    private static void testRow(String call, String[] cells, Method method) {
        if (method == null) {
            return;
        }
        String given = call.substring(call.indexOf('(') + 1, call.length() - 1);
        int count = given.isEmpty() ? 0 : given.split(",").length;
        Check.same(call + " takes as many", method.getParameterCount(), count);
        List<String> told = new ArrayList<>();
        for (int kind = 0; kind < THROWN.length; kind++) {
            if (!cells[FIRST_THROWN + kind].strip().equals("-")) {
                told.add(THROWN[kind]);
            }
        }
        List<String> due = new ArrayList<>();
        for (Class<?> type : method.getExceptionTypes()) {
            due.add(type.getSimpleName());
        }
        Check.same(call + " throws " + due + ", the page tells " + told, true, due.equals(told));
    }
}
