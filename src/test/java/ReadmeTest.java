import java.lang.reflect.Method;
import java.net.URL;
import java.net.URLClassLoader;
import java.nio.file.Files;
import java.nio.file.Path;
import java.util.ArrayList;
import java.util.List;
import java.util.Set;
import java.util.TreeSet;
import java.util.function.LongConsumer;
import java.util.regex.Matcher;
import java.util.regex.Pattern;

/** The calls of README.md, compiled as they stand there and run from the first to the last, with the answers told. */
public final class ReadmeTest {
    private static final Check CHECK = new Check("ReadmeTest");
    private static final Pattern BLOCK = Pattern.compile("(?ms)^```java\n(.*?)^```$");
    private static final Pattern CALL =
        Pattern.compile("(x\\.(\\w+)\\(.*\\)); +// (?:(-?\\d+)|([A-Z]+)(?: \\((-\\d)\\))?)(?::.*)?");
    private static final String START = "TeethForCoins x = new TeethForCoins();";

    private static final List<String> CALLS = new ArrayList<>();
    private static final List<Long> DUE = new ArrayList<>();
    private static final List<Long> GOT = new ArrayList<>();

    public static void main(String[] args) throws Exception {
        Set<String> called = new TreeSet<>();
        StringBuilder body = new StringBuilder();
        Matcher blocks = BLOCK.matcher(Files.readString(Path.of("README.md")));
        while (blocks.find()) {
            for (String line : blocks.group(1).split("\n")) {
                body.append("        ").append(statement(line, called)).append('\n');
            }
        }
        CHECK.holds("every call stands in README.md, not only " + called, called.equals(face()));
        run("final class Readme {\n    static void run(java.util.function.LongConsumer told) {\n" + body + "    }\n}");
        CHECK.due("calls of README.md that were run", GOT.size(), CALLS.size());
        for (int i = 0; i < Math.min(CALLS.size(), GOT.size()); i++) {
            CHECK.due("README.md: " + CALLS.get(i), GOT.get(i), DUE.get(i));
        }
        CHECK.end();
    }

    private static Set<String> face() {
        Set<String> face = new TreeSet<>();
        for (Method method : TeethForCoins.class.getMethods()) {
            if (method.getDeclaringClass() == TeethForCoins.class) {
                face.add(method.getName());
            }
        }
        return face;
    }

    /** The line as it is to be compiled; a call hands on what it answers. */
    private static String statement(String line, Set<String> called) throws ReflectiveOperationException {
        Matcher call = CALL.matcher(line);
        if (!call.matches()) {
            CHECK.holds("README.md: the start, or a call with its answer: " + line, line.equals(START));
            return line;
        }
        called.add(call.group(2));
        CALLS.add(call.group(1));
        DUE.add(call.group(3) != null ? Long.parseLong(call.group(3)) : constant(call.group(4), call.group(5)));
        return "told.accept(" + call.group(1) + ");";
    }

    private static long constant(String name, String number) throws ReflectiveOperationException {
        long value = TeethForCoins.class.getField(name).getInt(null);
        if (number != null) {
            CHECK.due("README.md: " + name, value, Long.parseLong(number));
        }
        return value;
    }

    private static void run(String program) throws Exception {
        Path out = Files.createTempDirectory("readme");
        Path source = out.resolve("Readme.java");
        try {
            Files.writeString(source, program);
            String path = System.getProperty("java.class.path");
            int status = new ProcessBuilder("javac", "-cp", path, "-d", out.toString(), source.toString())
                .inheritIO().start().waitFor();
            CHECK.due("README.md's calls are compiled", status, 0);
            if (status == 0) {
                try (URLClassLoader loader = new URLClassLoader(new URL[] {out.toUri().toURL()})) {
                    Method run = loader.loadClass("Readme").getDeclaredMethod("run", LongConsumer.class);
                    run.setAccessible(true);
                    LongConsumer told = GOT::add;
                    run.invoke(null, told);
                }
            }
        } finally {
            Files.deleteIfExists(out.resolve("Readme.class"));
            Files.deleteIfExists(source);
            Files.deleteIfExists(out);
        }
    }
}
