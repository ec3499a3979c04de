import java.lang.reflect.Field;
import java.lang.reflect.Method;
import java.lang.reflect.Modifier;
import java.net.URL;
import java.net.URLClassLoader;
import java.nio.file.Files;
import java.nio.file.Path;
import java.util.ArrayList;
import java.util.List;
import java.util.regex.Matcher;
import java.util.regex.Pattern;
import javax.tools.JavaCompiler;
import javax.tools.ToolProvider;

/** What README.md says of the class; the third argument is its path, the first one that of the class. */
public final class ReadmeTest {
    private static final Pattern EXAMPLE = Pattern.compile("(?s)```java\\n(.*?)```");
    /** A call of the example behind which a number says what it answers. */
    private static final Pattern ANSWERED = Pattern.compile("\\s*(x\\.\\w+\\(.*\\));\\s*// (-?\\d+)\\b.*");

    public static void main(String[] args) throws Exception {
        Expect e = new Expect();
        String page = Files.readString(Path.of(args.length > 2 ? args[2] : "README.md"));
        example(e, page);
        names(e, page);
        Path main = Path.of(args.length > 0 ? args[0] : "src/main/java/ToupeeWind.java").toAbsolutePath();
        tests(e, page, main.getParent().resolve("../../test/java"));
        e.end();
    }

    private static void example(Expect e, String page) throws Exception {
        Matcher m = EXAMPLE.matcher(page);
        boolean found = m.find();
        e.holds("there is an example", found);
        if (!found) {
            return;
        }
        List<String> calls = new ArrayList<>();
        List<Long> said = new ArrayList<>();
        StringBuilder body = new StringBuilder();
        for (String line : m.group(1).split("\n")) {
            Matcher call = ANSWERED.matcher(line);
            if (call.matches()) {
                body.append("answers[").append(calls.size()).append("] = ").append(call.group(1)).append(";\n");
                calls.add(call.group(1));
                said.add(Long.valueOf(call.group(2)));
            } else {
                body.append(line).append('\n');
            }
        }
        e.holds("the example says answers", !calls.isEmpty());
        long[] answers = new long[calls.size()];
        run(e, body.toString(), answers);
        for (int n = 0; n < answers.length; n++) {
            e.due("README.md: " + calls.get(n), answers[n], said.get(n));
        }
    }

    /** Compiles the example as it stands on the page, and runs it. */
    private static void run(Expect e, String body, long[] answers) throws Exception {
        Path work = Files.createTempDirectory("readme");
        Path source = work.resolve("Example.java");
        Files.writeString(source, "public final class Example {\n"
            + "public static void fill(long[] answers) {\n" + body + "}\n}\n");
        JavaCompiler compiler = ToolProvider.getSystemJavaCompiler();
        boolean compiled = compiler != null && compiler.run(null, null, null,
            "-cp", System.getProperty("java.class.path"), "-d", work.toString(), source.toString()) == 0;
        e.holds("the example compiles", compiled);
        if (compiled) {
            try (URLClassLoader loader = new URLClassLoader(new URL[] {work.toUri().toURL()})) {
                loader.loadClass("Example").getMethod("fill", long[].class).invoke(null, (Object) answers);
            }
        }
        Files.deleteIfExists(work.resolve("Example.class"));
        Files.deleteIfExists(source);
        Files.deleteIfExists(work);
    }

    /** Every call, and every constant with its number. */
    private static void names(Expect e, String page) throws Exception {
        for (Method m : ToupeeWind.class.getDeclaredMethods()) {
            if (Modifier.isPublic(m.getModifiers())) {
                e.holds("README.md says what " + m.getName() + " is for", page.matches("(?s).*\\| [^|\\n]*`" + m.getName() + "`[^|\\n]*\\|.*"));
            }
        }
        for (Field f : ToupeeWind.class.getFields()) {
            e.holds("README.md says what number " + f.getName() + " is",
                Pattern.compile("\\b" + f.getName() + "\\b[ ,|\\n]+" + f.get(null) + "\\b").matcher(page).find());
        }
    }

    private static void tests(Expect e, String page, Path where) throws Exception {
        List<String> there = new ArrayList<>();
        try (var files = Files.list(where)) {
            files.map(file -> file.getFileName().toString()).filter(name -> name.endsWith("Test.java"))
                .forEach(name -> there.add(name.replace(".java", "")));
        }
        e.holds("there are tests", !there.isEmpty());
        for (String name : there) {
            e.holds("README.md tells of " + name, page.contains("| " + name + " |"));
        }
        Matcher told = Pattern.compile("\\| (\\w+Test) \\|").matcher(page);
        while (told.find()) {
            e.holds("there is a " + told.group(1), there.contains(told.group(1)));
        }
    }
}
