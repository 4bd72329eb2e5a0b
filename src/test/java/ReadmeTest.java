import java.io.File;
import java.io.IOException;
import java.net.URL;
import java.net.URLClassLoader;
import java.nio.file.Files;
import java.nio.file.Path;
import java.util.regex.Matcher;
import java.util.regex.Pattern;
import javax.tools.JavaCompiler;
import javax.tools.ToolProvider;

/** The run of calls that README.md tells: it is compiled, and each call answers what stands behind it. */
public final class ReadmeTest {
    private static final Pattern CALL = Pattern.compile("(ledger\\.(\\w+)\\(.*\\)); +// ([^: ]+)(?:: .*)?");
    // A loop types its signs without telling what each type answers.
    private static final String TYPED_IN_LOOP = "    ledger.type(sign);";
    private static final Path README = Path.of("README.md");
    private static final Path BUILT = Path.of("build", "ci", "readme");

    public static void main(String[] args) throws Exception {
        String block = javaBlock(Files.readString(README));
        everyMethodIsTold(block);
        runCompiled(block);
        Check.close("ReadmeTest");
    }

    private static String javaBlock(String text) {
        String begin = "```java\n";
        int from = text.indexOf(begin);
        int to = from < 0 ? -1 : text.indexOf("```", from + begin.length());
        Check.yes("README.md tells a run of calls", to > from);
        return to > from ? text.substring(from + begin.length(), to) : "";
    }

    private static void everyMethodIsTold(String block) {
        for (java.lang.reflect.Method method : Postlint.class.getMethods()) {
            if (method.getDeclaringClass() == Postlint.class) {
                Check.yes(method.getName() + " is told", block.contains("ledger." + method.getName() + "("));
            }
        }
    }

    private static void runCompiled(String block) throws IOException, ReflectiveOperationException {
        Files.createDirectories(BUILT);
        Path source = BUILT.resolve("ReadmeRun.java");
        Files.writeString(source, program(block));
        JavaCompiler compiler = ToolProvider.getSystemJavaCompiler();
        String path = System.getProperty("java.class.path") + File.pathSeparator + BUILT;
        int exit = compiler.run(null, null, null, "-cp", path, "-d", BUILT.toString(), source.toString());
        Check.equal("the run compiles, exit code", exit, 0);
        if (exit == 0) {
            run(path);
        }
    }

    /** A loader of its own for all classes, since the run reaches what only its own package may reach. */
    private static void run(String path) throws IOException, ReflectiveOperationException {
        String[] places = path.split(File.pathSeparator);
        URL[] urls = new URL[places.length];
        for (int i = 0; i < places.length; i++) {
            urls[i] = Path.of(places[i]).toUri().toURL();
        }
        try (URLClassLoader loader = new URLClassLoader(urls, ClassLoader.getPlatformClassLoader())) {
            loader.loadClass("ReadmeRun").getMethod("main", String[].class).invoke(null, (Object) new String[0]);
        }
    }

    private static String program(String block) {
        StringBuilder program = new StringBuilder("public final class ReadmeRun {\n");
        program.append("    static long told(long answer) { return answer; }\n");
        program.append("    static long told(boolean answer) { return answer ? 1 : 0; }\n");
        program.append("    public static void main(String[] args) {\n");
        for (String line : block.split("\n")) {
            program.append(checked(line)).append('\n');
        }
        return program.append("Check.close(\"README.md\");\n    }\n}\n").toString();
    }

    private static String checked(String line) {
        Matcher call = CALL.matcher(line);
        if (!call.matches()) {
            boolean isBare = line.contains("ledger.") && !line.startsWith(TYPED_IN_LOOP);
            Check.no("a call without an answer: " + line, isBare);
            return line;
        }
        String answer = call.group(3);
        String due = answer.equals("true") ? "1" : answer.equals("false") ? "0" : answer;
        String what = "\"README.md: \" + " + quoted(line);
        return "Check.equal(" + what + ", Check.outcome(() -> told(" + call.group(1) + ")), \"" + due + "\");";
    }

    private static String quoted(String text) {
        return '"' + text.replace("\\", "\\\\").replace("\"", "\\\"") + '"';
    }
}
