import java.io.IOException;
import java.nio.file.Files;
import java.nio.file.Path;
import java.util.Arrays;
import java.util.LinkedHashMap;
import java.util.Map;
import java.util.regex.Matcher;
import java.util.regex.Pattern;

/**
 * Tests of single sentences of the document. Each names where its sentence stands ("Promise 6", or, for a
 * sentence that promises rest on, "Section 1, promises 11, 12"), the sentence's own words, and the edge that
 * it looks at. Words that the document does not have there are a failure, and so are words of a promise or of
 * "Terms" that no test names.
 */
final class Sentences {
    interface Body {
        void check(Expect e);
    }

    private static final String LAST_OF_TERMS = "Ahead of the calls";
    private static final String INTRODUCTION = "What it is";
    private static final Pattern PLACE = Pattern.compile("(Promise \\d+)|([A-Z][\\w ]+), promises? \\d[\\d ,to]*");
    private static final int MOST_SECONDS = 100;

    private final Expect e = new Expect();
    private final Map<String, String> texts = new LinkedHashMap<>();
    private final Map<String, boolean[]> named = new LinkedHashMap<>();
    private int tests = 0;
    private volatile String running = "";

    Sentences(Path document) throws IOException {
        watch();
        String all = Files.readString(document);
        keep(INTRODUCTION, between(all, "## What it is", "## The public face"));
        String terms = between(all, "## Terms", LAST_OF_TERMS);
        String[] parts = terms.split("=+ (?=[1-4] )");
        keep("Terms", parts[0]);
        for (int n = 1; n < parts.length; n++) {
            keep("Section " + n, parts[n].substring(2));
        }
        Matcher m = Pattern.compile("(?s)## (Promise \\d+): \\w+[^`]*`[^`]*`: (.*?)\\n(?=## )").matcher(all);
        while (m.find()) {
            keep(m.group(1), m.group(2));
        }
    }

    /** A call that does not end is a failure, too. */
    private void watch() {
        Thread watcher = new Thread(() -> {
            try {
                Thread.sleep(1000L * MOST_SECONDS);
            } catch (InterruptedException ended) {
                return;
            }
            System.out.println("a call does not end: " + running);
            Runtime.getRuntime().halt(1);
        });
        watcher.setDaemon(true);
        watcher.start();
    }

    private static String between(String all, String from, String to) {
        int begin = all.indexOf(from) + from.length();
        return all.substring(begin, all.indexOf(to, begin));
    }

    private void keep(String section, String raw) {
        String text = raw.replace("```text", " ").replace("```", " ").replaceAll("\\s+", " ").trim();
        texts.put(section, text);
        named.put(section, new boolean[text.length()]);
    }

    /** One test, of one sentence. */
    void test(String place, String words, String edge, Body body) {
        tests++;
        running = place + ", \"" + words + "\", " + edge + ": ";
        e.about(running);
        Matcher m = PLACE.matcher(place);
        e.holds("a promise is named", m.matches());
        String section = !m.matches() ? place : m.group(1) != null ? m.group(1) : m.group(2);
        String text = texts.getOrDefault(section, "");
        int at = text.indexOf(words);
        e.holds("the document says so there", at >= 0);
        if (at >= 0) {
            Arrays.fill(named.get(section), at, at + words.length(), true);
        }
        int before = e.calls();
        body.check(e);
        e.holds("something was tested", e.calls() > before);
    }

    void end() {
        e.about("");
        e.due("sections with promises or terms", texts.size(), 1 + 5 + 26);
        for (String section : texts.keySet()) {
            String left = section.equals(INTRODUCTION) ? "" : unnamed(section);
            e.holds("every sentence of " + section + " has a test; none has: " + left, left.isEmpty());
        }
        System.out.println(tests + " tests of sentences");
        e.end();
    }

    /** The words of a section that no test names. */
    private String unnamed(String section) {
        String text = texts.get(section);
        boolean[] seen = named.get(section);
        StringBuilder left = new StringBuilder();
        for (int at = 0; at < text.length(); at++) {
            if (!seen[at]) {
                left.append(text.charAt(at));
            } else if (left.length() > 0 && left.charAt(left.length() - 1) != ' ') {
                left.append(' ');
            }
        }
        return left.toString().replaceAll("[^A-Za-z0-9 ]", "").trim();
    }
}
