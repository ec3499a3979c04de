import java.nio.file.Files;
import java.nio.file.Path;
import java.util.ArrayList;
import java.util.List;
import java.util.regex.Matcher;
import java.util.regex.Pattern;

/** What of LANGUAGE.md can be seen in the text of the class; the file's path is the argument. */
public final class LanguageTest {
    private static final String[] FORBIDDEN = {
        "\\bpackage\\b", "\\bimport\\b", "->", "::", "\\btry\\b", "\\bcatch\\b", "\\bfinally\\b", "\\bthrow", "\\bassert\\b",
        "\\bsynchronized\\b", "\\bprotected\\b", "\\bvar\\b", "Exact\\b", "\\bnative\\b", "\\bvolatile\\b",
        "\\bThread\\b", "\\bRuntime\\b", "currentTimeMillis", "nanoTime", "random", "\\bdouble\\b", "\\bfloat\\b",
        "\\bequals\\b", "\\bhashCode\\b", "\\btoString\\b", "\\binstanceof\\b", "\\bwhile\\b", "\\bdo\\b"};
    private static final int LONGEST_METHOD = 60;
    private static final int MOST_CLASSES = 12;

    public static void main(String[] args) throws Exception {
        Expect e = new Expect();
        String source = Files.readString(Path.of(args.length > 0 ? args[0] : "src/main/java/ToupeeWind.java"));
        String code = source.replaceAll("(?s)/\\*.*?\\*/", "").replaceAll("//[^\\n]*", "");
        for (String pattern : FORBIDDEN) {
            e.holds("no " + pattern, !Pattern.compile(pattern).matcher(code).find());
        }
        e.holds("signs up to 126", source.chars().allMatch(sign -> sign <= 126));
        e.holds("at most twelve classes", count(code, "\\bclass\\b") <= MOST_CLASSES);
        e.holds("every static field is final",
            count(code, "(?m)^\\s*(private |public )?static (?!final)[^(;{]*[;=]") == 0);
        calls(e, code);
        methods(e, code);
        e.end();
    }

    private static int count(String code, String pattern) {
        Matcher m = Pattern.compile(pattern).matcher(code);
        int found = 0;
        while (m.find()) {
            found++;
        }
        return found;
    }

    /** Of the library only what is known to be listed. */
    private static void calls(Expect e, String code) {
        List<String> listed = List.of("Integer.bitCount", "Long.bitCount", "Math.max", "Math.min", "Math.abs",
            "System.arraycopy");
        Matcher m = Pattern.compile("\\b(Integer|Long|Math|System|Arrays|String|List|Character)\\.\\w+").matcher(code);
        while (m.find()) {
            e.holds(m.group() + " is listed", listed.contains(m.group()));
        }
    }

    private static void methods(Expect e, String code) {
        List<String> faces = new ArrayList<>();
        List<String> others = new ArrayList<>();
        String[] lines = code.split("\n");
        Pattern head = Pattern.compile("^( {4}| {8})((?:\\w+ )*)(\\w+)\\(([^)]*)\\) \\{$");
        for (int at = 0; at < lines.length; at++) {
            Matcher m = head.matcher(lines[at]);
            if (!m.matches()) {
                continue;
            }
            (m.group(2).contains("public") ? faces : others).add(m.group(3));
            e.holds(m.group(3) + " has at most seven parameters", m.group(4).split(",").length <= 7);
            int end = at;
            while (!lines[end].equals(m.group(1) + "}")) {
                end++;
            }
            e.holds(m.group(3) + " is short", end - at < LONGEST_METHOD);
        }
        e.due("public methods and the constructor", faces.size(), 26);
        for (String name : others) {
            e.holds("no other method is called " + name, !faces.contains(name));
        }
    }
}
